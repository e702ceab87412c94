import java.util.ArrayList;
import java.util.List;

/** Boundary cases of the whole state: new, clear, rewind, snapshot, restore, refused calls and 512 calls. */
final class StateEdges {
    private StateEdges() {
    }

    static void all() {
        Sentences.section("What it is");
        Sentences.holds("An object is used for at most 512 calls after it has been made; what later calls answer is"
            + " free.", StateEdges::calls512);
        Sentences.section("Exceptions");
        Sentences.holds("A call that throws an exception leaves the state unchanged, unless its description says"
            + " otherwise.", RefusedCalls::leaveTheState);
        Sentences.holds("If a method can throw several exceptions, they are checked in the order in which they are"
            + " listed.", StateEdges::orderOfExceptions);
        Sentences.holds("A new workbench has no tasks, no server, no requests, and the policy 0.",
            StateEdges::newWorkbench);
        promisesOfClearAndRewind();
        promisesOfSnapshots();
    }

    private static void promisesOfClearAndRewind() {
        Sentences.section("Promise 2");
        Sentences.holds("Removes all tasks, the server and all requests, and sets the policy to 0 and the clock to 0.",
            StateEdges::cleared);
        Sentences.holds("The input buffer, the error position and the snapshot stay.", StateEdges::staysAfterClear);
        Sentences.holds("Returns the number of tasks that are removed.", StateEdges::removedTasks);
        Sentences.section("Promise 21");
        Sentences.holds("Sets the clock to 0, as if no unit had been made yet.", StateEdges::rewound);
        Sentences.holds("Tasks, server, requests and policy stay.", StateEdges::staysAfterRewind);
        Sentences.holds("Returns the previous clock.", StateEdges::previousClocks);
    }

    private static void promisesOfSnapshots() {
        Sentences.section("Promise 33");
        Sentences.holds("Takes a snapshot of everything but the input buffer and the error position.",
            StateEdges::snapshotOfAll);
        Sentences.holds("It replaces an earlier one.", StateEdges::replacedSnapshot);
        Sentences.holds("Returns the clock.", StateEdges::clocksOfSnapshots);
        Sentences.section("Promise 34");
        Sentences.holds("Restores all that from the snapshot, which stays available.", StateEdges::restoredAgain);
        Sentences.holds("Returns the clock.", StateEdges::clocksOfSnapshots);
        Sentences.holds("Throws IllegalStateException if there is no snapshot", StateEdges::noSnapshot);
    }

    /** The dearest calls there are, up to the last one that the document speaks of. */
    private static void calls512() {
        List<String> calls = new ArrayList<>();
        for (int task = 0; task < 5; task++) {
            calls.add("addTask " + (2 * task + 1) + " 1 1 " + task);
            for (int k = 0; k < 6; k++) {
                calls.add("addSegment " + task + " " + (k % 5 - 1) + " " + (1 + task));
            }
        }
        calls.add("setServer 8 9 1");
        for (int k = 0; k < 12; k++) {
            calls.add("request " + 25 * k + " 9");
        }
        String[] cycle = {"run 100", "snapshot", "witness 0", "run 100", "restore", "run 100", "bound 1", "run 100",
            "run 100", "setPolicy 1", "rewind", "run 100", "setPolicy 2", "run 100", "balance", "restore", "rewind"};
        while (calls.size() < 511) {
            calls.add(cycle[calls.size() % cycle.length]);
        }
        calls.add("run 1");
        CeilingWorkbench x = new CeilingWorkbench();
        Model y = new Model();
        Check.due("calls", calls.size(), 512);
        for (int k = 0; k < 512; k++) {
            Check.due("call " + (k + 1), Calls.answer(x, calls.get(k)), Calls.answer(y, calls.get(k)));
        }
    }

    private static void orderOfExceptions() {
        orderWhileConfiguring();
        orderWhileTyping();
        orderWhileAsking();
    }

    private static void orderWhileConfiguring() {
        CeilingWorkbench full = Edges.full();
        Check.refused(full, "a range, 5 tasks, a priority", Edges.ARGUMENT, () -> full.addTask(1, 61, 1, 0));
        Check.refused(full, "5 tasks, a priority", Edges.STATE, () -> full.addTask(1, 60, 1, 0));
        Check.refused(full, "5 tasks, the server's priority", Edges.STATE, () -> full.addTask(6, 60, 1, 0));
        Check.refused(full, "no task, a range", Edges.INDEX, () -> full.addSegment(5, 4, 10));
        Check.refused(full, "a resource, 6 segments", Edges.ARGUMENT, () -> full.addSegment(4, 4, 9));
        Check.refused(full, "a length, 6 segments", Edges.ARGUMENT, () -> full.addSegment(4, 3, 10));
        Check.refused(full, "a range, a priority", Edges.ARGUMENT, () -> full.setServer(1, 10, 60));
        Check.refused(full, "a length, 12 requests", Edges.ARGUMENT, () -> full.request(0, 10));
        Check.refused(full, "a time, 12 requests", Edges.ARGUMENT, () -> full.request(301, 1));
        full.run(1);
        Check.refused(full, "a range, the clock, 5 tasks", Edges.ARGUMENT, () -> full.addTask(10, 60, 60, 0));
        Check.refused(full, "the clock, a priority", Edges.STATE, () -> full.addTask(1, 60, 60, 0));
        Check.refused(full, "no task, the clock", Edges.INDEX, () -> full.addSegment(-1, 0, 1));
        Check.refused(full, "a range, the clock", Edges.ARGUMENT, () -> full.addSegment(0, -2, 1));
        Check.refused(full, "a range, the clock", Edges.ARGUMENT, () -> full.setServer(2, 1, 0));
        Check.refused(full, "the clock, a priority", Edges.STATE, () -> full.setServer(1, 1, 1));
        Check.refused(full, "the past, 12 requests", Edges.ARGUMENT, () -> full.request(0, 1));
        CeilingWorkbench one = Edges.withTasks(1, 0);
        Check.refused(one, "a range, a priority", Edges.ARGUMENT, () -> one.addTask(1, 60, 60, 61));
        Check.refused(one, "a priority alone", Edges.TAKEN, () -> one.addTask(1, 60, 60, 60));
        one.run(1);
        Check.refused(one, "the clock, a priority", Edges.STATE, () -> one.addTask(1, 60, 60, 60));
    }

    private static void orderWhileTyping() {
        CeilingWorkbench full = Edges.full();
        Check.refused(full, "a code, 60 characters", Edges.ARGUMENT, () -> full.append((char) 31));
        Check.refused(full, "a code, 60 characters", Edges.ARGUMENT, () -> full.append((char) 127));
        Check.refused(full, "60 characters alone", Edges.STATE, () -> full.append((char) 126));
        Check.answer(full::configure);
        Check.due("a malformed command that would be refused", Check.configured(full, "task 0 0 0 0 "),
            "IllegalArgumentException");
        Check.due("one that is refused alone", Check.configured(full, "task 0 0 0 0"), "IllegalStateException");
    }

    private static void orderWhileAsking() {
        CeilingWorkbench x = new CeilingWorkbench();
        Check.refused(x, "no task, what", Edges.INDEX, () -> x.task(0, 6));
        Check.refused(x, "no task, what", Edges.INDEX, () -> x.result(-1, -1));
        Check.refused(x, "no task, no segments", Edges.INDEX, () -> x.bound(0));
        Check.refused(x, "no task, no segments", Edges.INDEX, () -> x.witness(0));
        Check.refused(x, "no task, no job", Edges.INDEX, () -> x.activePriority(0));
        Check.refused(x, "no task, no finished job", Edges.INDEX, () -> x.averageResponse(0));
        Check.refused(x, "no server, no plan", Edges.STATE, x::nextReplenishment);
        Check.refused(x, "no request, not finished", Edges.INDEX, () -> x.requestResponse(0));
        x.addTask(5, 60, 60, 0);
        Edges.addTask(x, 9, 1, 1, 0, 1);
        Check.refused(x, "no segments, no bound", Edges.STATE, () -> x.bound(0));
        Check.refused(x, "no segments, never finished", Edges.STATE, () -> x.witness(0));
        CeilingWorkbench y = Edges.at(400);
        Check.refused(y, "a range, the clock", Edges.ARGUMENT, () -> y.run(0));
        Check.refused(y, "a range, the clock", Edges.ARGUMENT, () -> y.run(101));
        Check.refused(y, "the clock alone", Edges.STATE, () -> y.run(100));
    }

    private static void newWorkbench() {
        CeilingWorkbench x = new CeilingWorkbench();
        Check.due("taskCount", x.taskCount(), 0);
        Check.due("clear", x.clear(), 0);
        Check.due("no server", x.setServer(1, 1, 1), false);
        Check.due("no request", x.request(0, 1), 0);
        Check.due("policy", x.setPolicy(1), 0);
        Check.due("clock", x.clock(), 0);
        Check.due("rewind", x.rewind(), 0);
        Check.due("an empty buffer", x.append('a'), 1);
        Check.refused(x, "no error position", Edges.NO_SUCH, x::errorPosition);
        Check.refused(x, "no snapshot", Edges.STATE, x::restore);
    }

    private static void cleared() {
        String[][] states = {{}, {"run 1"}, {"run 100", "run 100", "run 100", "run 100"}, {"run 7", "rewind"}};
        for (String[] calls : states) {
            CeilingWorkbench x = Edges.full();
            Calls.make(x, calls);
            x.setPolicy(2);
            x.clear();
            CeilingWorkbench y = new CeilingWorkbench();
            Check.configured(y, "tusk");
            Check.due("as new", View.of(x), View.of(y));
            Check.answer(x::configure);
            Check.configured(y, "policy skip again");
            Calls.make(x, "addTask 5 9 3 2", "addSegment 0 1 4", "setServer 4 1 9", "request 0 9");
            Calls.make(y, "addTask 5 9 3 2", "addSegment 0 1 4", "setServer 4 1 9", "request 0 9");
            Check.due("run", Edges.runAll(x, 400), Edges.runAll(y, 400));
            Check.due("nothing is left of before", View.of(x), View.of(y));
        }
    }

    private static void staysAfterClear() {
        CeilingWorkbench x = Edges.full();
        x.run(3);
        String before = View.of(x);
        x.snapshot();
        x.clear();
        Check.refused(x, "the buffer is full", Edges.STATE, () -> x.append('a'));
        Check.due("error position", x.errorPosition(), 1);
        Check.due("snapshot", x.restore(), 3);
        Check.due("restored", View.of(x), before);
        Check.answer(x::configure);
        Check.due("the text was there", x.errorPosition(), 11);
    }

    private static void removedTasks() {
        for (int count = 0; count <= 5; count++) {
            CeilingWorkbench x = Edges.withTasks(count, count);
            Check.due("clear", x.clear(), count);
            Check.due("clear again", x.clear(), 0);
        }
    }

    private static void rewound() {
        for (int policy = 0; policy <= 2; policy++) {
            for (int clock = 0; clock <= 400; clock += clock < 60 || clock == 399 ? 1 : 113) {
                CeilingWorkbench x = Check.busyBench(policy);
                CeilingWorkbench y = Check.busyBench(policy);
                Edges.runAll(x, clock);
                x.rewind();
                Check.due("clock", x.clock(), 0);
                Check.due("as if no unit had been made", View.of(x), View.of(y));
                Check.due("run", Edges.runAll(x, 80), Edges.runAll(y, 80));
                Check.due("the same again", View.of(x), View.of(y));
            }
        }
    }

    private static void staysAfterRewind() {
        CeilingWorkbench x = Edges.full();
        x.setPolicy(2);
        Edges.runAll(x, 400);
        x.rewind();
        Check.due("tasks", x.taskCount(), 5);
        Check.due("segments", x.task(4, 4), 6);
        Check.due("server", x.setServer(6, 1, 1), true);
        Check.refused(x, "requests", Edges.STATE, () -> x.request(0, 1));
        Check.due("policy", x.setPolicy(0), 2);
        Check.due("error position", x.errorPosition(), 1);
        Check.refused(x, "buffer", Edges.STATE, () -> x.append('a'));
        Check.due("snapshot", x.restore(), 0);
    }

    private static void previousClocks() {
        CeilingWorkbench x = new CeilingWorkbench();
        int[] clocks = {0, 1, 0, 100, 399, 400};
        for (int clock : clocks) {
            Edges.runAll(x, clock);
            Check.due("rewind", x.rewind(), clock);
        }
    }

    private static void snapshotOfAll() {
        for (int policy = 0; policy <= 2; policy++) {
            for (int clock = 0; clock <= 400; clock += clock < 60 || clock == 399 ? 1 : 113) {
                restoredFromOther(policy, clock);
            }
        }
        CeilingWorkbench x = Edges.full();
        x.snapshot();
        Check.answer(x::configure);
        x.restore();
        Check.due("the error position is not in it", x.errorPosition(), 11);
        Check.due("the buffer is not in it", x.append('a'), 1);
    }

    /** What a snapshot does not take would be that of the other workbench, or show in the units that follow. */
    private static void restoredFromOther(int policy, int clock) {
        CeilingWorkbench x = Check.busyBench(policy);
        CeilingWorkbench y = Check.busyBench(policy);
        Edges.runAll(x, clock);
        Edges.runAll(y, clock);
        x.snapshot();
        x.clear();
        for (int task = 4; task >= 0; task--) {
            Edges.addTask(x, 2 * task + 1, task + 1, task + 1, 60 - task, task + 1, task + 2);
        }
        x.setServer(4, 9, 33);
        x.request(5, 4);
        Edges.runAll(x, 400);
        x.restore();
        Check.due("all comes back at " + clock, View.of(x), View.of(y));
        int units = Math.min(60, 400 - clock);
        Check.due("run", Edges.runAll(x, units), Edges.runAll(y, units));
        Check.due("all goes on from " + clock, View.of(x), View.of(y));
        x.rewind();
        y.rewind();
        Check.due("run", x.run(60), y.run(60));
        Check.due("and from 0", View.of(x), View.of(y));
    }

    private static void replacedSnapshot() {
        CeilingWorkbench x = Edges.withTasks(5, 400);
        x.snapshot();
        x.clear();
        x.snapshot();
        Check.due("restore", x.restore(), 0);
        Check.due("of the empty one", View.of(x), View.of(new CeilingWorkbench()));
    }

    private static void clocksOfSnapshots() {
        CeilingWorkbench x = new CeilingWorkbench();
        int[] steps = {0, 1, 99, 100, 100, 99, 1};
        for (int step : steps) {
            Edges.runAll(x, step);
            int clock = x.clock();
            Check.due("snapshot", x.snapshot(), clock);
            x.rewind();
            Check.due("restore", x.restore(), clock);
            Check.due("clock", x.clock(), clock);
        }
    }

    private static void restoredAgain() {
        CeilingWorkbench x = Edges.full();
        x.run(100);
        x.snapshot();
        String before = View.of(x);
        for (int k = 0; k < 3; k++) {
            x.run(100);
            x.setPolicy(k);
            Check.due("restore", x.restore(), 100);
            Check.due("restored", View.of(x), before);
            Check.due("restore at once", x.restore(), 100);
            Check.due("restored at once", View.of(x), before);
            x.clear();
        }
    }

    private static void noSnapshot() {
        CeilingWorkbench x = Edges.withTasks(5, 7);
        Check.refused(x, "at clock 7", Edges.STATE, x::restore);
        x.rewind();
        x.clear();
        Check.refused(x, "after clear", Edges.STATE, x::restore);
        x.snapshot();
        x.clear();
        Check.due("clear does not take it away", x.restore(), 0);
    }
}
