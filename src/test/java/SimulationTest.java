/** Promises 20 to 28 and 32: the simulation of tasks and what is told of it. */
public final class SimulationTest {
    private static final Class<IllegalArgumentException> ARGUMENT = IllegalArgumentException.class;
    private static final Class<IllegalStateException> STATE = IllegalStateException.class;
    private static final Class<IndexOutOfBoundsException> INDEX = IndexOutOfBoundsException.class;
    private static final int LEAST = Integer.MIN_VALUE;
    private static final int GREATEST = Integer.MAX_VALUE;
    private static final int[] NO_TASK = {-1, 1, 5, LEAST, GREATEST};

    public static void main(String[] args) {
        runAndClock();
        runToTheEnd();
        abortToTheEnd();
        ceilingsInTheRun();
        holdersPreemptedByGreaterOnes();
        nothingHeldBetweenSegments();
        releases();
        policyContinue();
        policyAbort();
        policySkip();
        skipWithDeadlineAtRelease();
        skipUnderAnotherPolicy();
        abortOfALaterJob();
        removedHolderHoldsNothing();
        nextJobRunsAfterRemoval();
        preemptions();
        onlyThisVeryJobIsPreempted();
        fiveTasks();
        averages();
        rewind();
        ranAtAndUtilization();
        wrongTasksAndResources();
        Check.end("SimulationTest");
    }

    /** A workbench with one task of one segment without resource. */
    private static CeilingWorkbench one(int period, int deadline, int offset, int demand) {
        CeilingWorkbench x = new CeilingWorkbench();
        addTask(x, 5, period, deadline, offset, demand);
        return x;
    }

    private static void addTask(CeilingWorkbench x, int priority, int period, int deadline, int offset, int demand) {
        x.addSegment(x.addTask(priority, period, deadline, offset), -1, demand);
    }

    private static void runAndClock() {
        CeilingWorkbench x = one(5, 5, 0, 2);
        int[] wrong = {0, -1, 101, LEAST, GREATEST};
        for (int units : wrong) {
            Check.refused(x, "run out of range", ARGUMENT, () -> x.run(units));
        }
        Check.due("clock", x.clock(), 0);
        Check.due("run(1)", x.run(1), 0);
        Check.due("clock", x.clock(), 1);
        Check.due("run(1)", x.run(1), 1);
        Check.due("run(100)", x.run(100), 20);
        Check.due("clock", x.clock(), 102);
    }

    private static void runToTheEnd() {
        CeilingWorkbench x = one(1, 1, 0, 9);
        for (int k = 1; k <= 3; k++) {
            x.run(100);
        }
        Check.due("run to 399", x.run(99), 11);
        Check.refused(x, "run to 401", STATE, () -> x.run(2));
        Check.refused(x, "run to 499", STATE, () -> x.run(100));
        Check.due("run to 400", x.run(1), 0);
        Check.due("clock", x.clock(), 400);
        Check.refused(x, "run to 401", STATE, () -> x.run(1));
        Check.refused(x, "the range before the clock", ARGUMENT, () -> x.run(101));
        Check.due("pending", x.pending(0), 356);
        // Job k finishes at 9 * (k + 1), and is released at k.
        Check.due("results", Check.results(x, 0), "44 399 0 0 0 353");
        Check.due("ranAt(399)", x.ranAt(399), 0);
        Check.refused(x, "ranAt(400)", INDEX, () -> x.ranAt(400));
    }

    private static void abortToTheEnd() {
        CeilingWorkbench x = one(1, 1, 0, 2);
        x.setPolicy(1);
        for (int k = 1; k <= 4; k++) {
            Check.due("run(100)", x.run(100), 0);
        }
        Check.due("results", Check.results(x, 0), "0 399 399 0 0 0");
        Check.due("pending", x.pending(0), 1);
        x.rewind();
        Check.due("run(100)", x.run(100), 0);
        Check.due("as before", Check.results(x, 0), "0 99 99 0 0 0");
        CeilingWorkbench y = one(1, 1, 0, 9);
        for (int k = 1; k <= 3; k++) {
            y.run(100);
        }
        y.run(99);
        y.setPolicy(1);
        y.run(1);
        Check.due("one of 400 releases is removed", Check.results(y, 0), "44 399 1 0 0 353");
        Check.due("pending", y.pending(0), 355);
    }

    private static void ceilingsInTheRun() {
        CeilingWorkbench x = new CeilingWorkbench();
        x.addTask(5, 20, 20, 2);
        addTask(x, 3, 20, 20, 1, 2);
        x.addTask(1, 30, 30, 0);
        x.addSegment(0, 0, 2);
        x.addSegment(2, 0, 4);
        x.addSegment(2, -1, 1);
        Check.due("run(1)", x.run(1), 0);
        Check.due("holder", x.holder(0), 2);
        Check.due("activePriority of the holder", x.activePriority(2), 5);
        Check.refused(x, "no job yet", java.util.NoSuchElementException.class, () -> x.activePriority(0));
        x.run(2);
        Check.due("activePriority of the holder", x.activePriority(2), 5);
        Check.due("activePriority", x.activePriority(0), 5);
        Check.due("activePriority", x.activePriority(1), 3);
        x.run(1);
        Check.due("the holder runs on", Check.trace(x), "2222");
        Check.due("released", x.holder(0), -1);
        Check.due("activePriority", x.activePriority(2), 1);
        x.run(1);
        Check.due("the next holder", x.holder(0), 0);
        Check.due("other resources", x.holder(1), -1);
        Check.due("run(4)", x.run(4), 3);
        Check.due("trace", Check.trace(x), "222200112");
        Check.due("results", Check.results(x, 0), "1 0 0 0 0 4");
        Check.due("results", Check.results(x, 1), "1 0 0 0 0 7");
        Check.due("results", Check.results(x, 2), "1 0 0 0 1 9");
        CeilingWorkbench y = new CeilingWorkbench();
        y.addTask(1, 30, 30, 0);
        y.addTask(5, 20, 20, 2);
        y.addSegment(0, 0, 4);
        y.addSegment(1, 0, 2);
        y.run(7);
        Check.due("the holder runs on, whatever its number", Check.trace(y), "000011.");
    }

    private static void holdersPreemptedByGreaterOnes() {
        CeilingWorkbench x = new CeilingWorkbench();
        x.addTask(2, 30, 30, 0);
        x.addTask(4, 30, 30, 9);
        x.addTask(6, 30, 30, 1);
        x.addTask(8, 30, 30, 20);
        x.addSegment(0, 0, 3);
        x.addSegment(1, 0, 1);
        x.addSegment(2, 1, 2);
        x.addSegment(3, 1, 1);
        x.run(2);
        Check.due("two holders", x.holder(0) * 10 + x.holder(1), 2);
        Check.due("activePriority", x.activePriority(0), 4);
        Check.due("activePriority", x.activePriority(2), 8);
        x.run(4);
        Check.due("trace", Check.trace(x), "02200.");
    }

    private static void nothingHeldBetweenSegments() {
        CeilingWorkbench x = new CeilingWorkbench();
        x.addTask(5, 20, 20, 1);
        x.addTask(1, 20, 20, 0);
        x.addSegment(0, 0, 1);
        x.addSegment(1, 0, 1);
        x.addSegment(1, 0, 2);
        x.run(1);
        Check.due("not held", x.holder(0), -1);
        Check.due("activePriority", x.activePriority(1), 1);
        x.run(2);
        Check.due("held again", x.holder(0), 1);
        x.run(1);
        Check.due("trace", Check.trace(x), "1011");
        Check.due("preempted between the segments", x.result(1, 4), 1);
    }

    private static void releases() {
        CeilingWorkbench x = one(5, 5, 60, 2);
        x.addTask(9, 1, 1, 0);
        Check.due("a task without segments has no jobs", x.run(60), 0);
        Check.due("pending before the release is made", x.pending(0), 0);
        Check.due("no activePriority", Check.answer(() -> x.activePriority(0)), "NoSuchElementException");
        x.run(1);
        Check.due("pending", x.pending(0), 1);
        Check.due("activePriority", x.activePriority(0), 5);
        x.run(1);
        Check.due("pending", x.pending(0), 0);
        x.run(10);
        Check.due("the end of the trace", Check.trace(x).substring(58), "..00...00...00");
        Check.due("results of the other", Check.results(x, 1), "0 0 0 0 0 0");
        Check.due("pending of the other", x.pending(1), 0);
    }

    private static void policyContinue() {
        CeilingWorkbench x = one(4, 2, 0, 3);
        x.run(2);
        Check.due("not yet missed", Check.results(x, 0), "0 0 0 0 0 0");
        Check.due("run(1)", x.run(1), 1);
        Check.due("missed and finished", Check.results(x, 0), "1 1 0 0 0 3");
        x.run(5);
        Check.due("trace", Check.trace(x), "000.000.");
        Check.due("results", Check.results(x, 0), "2 2 0 0 0 3");
        CeilingWorkbench y = one(4, 3, 0, 3);
        y.run(8);
        Check.due("finished in time", Check.results(y, 0), "2 0 0 0 0 3");
    }

    private static void policyAbort() {
        CeilingWorkbench x = one(4, 2, 0, 3);
        x.setPolicy(1);
        x.run(2);
        Check.due("pending", x.pending(0), 1);
        x.run(4);
        Check.due("trace", Check.trace(x), "00..00");
        Check.due("results", Check.results(x, 0), "0 1 1 0 0 0");
        x.run(1);
        Check.due("results", Check.results(x, 0), "0 2 2 0 0 0");
        Check.due("pending", x.pending(0), 0);
    }

    private static void policySkip() {
        CeilingWorkbench x = one(4, 2, 0, 3);
        x.setPolicy(2);
        x.run(4);
        Check.due("nothing skipped yet", Check.results(x, 0), "1 1 0 0 0 3");
        x.run(8);
        Check.due("trace", Check.trace(x), "000.....000.");
        Check.due("results", Check.results(x, 0), "2 2 0 1 0 3");
        x.run(1);
        Check.due("results", Check.results(x, 0), "2 2 0 2 0 3");
    }

    private static void skipWithDeadlineAtRelease() {
        CeilingWorkbench x = one(2, 2, 0, 3);
        x.setPolicy(2);
        x.run(3);
        // The release of time 2 comes before the miss of time 2.
        Check.due("pending", x.pending(0), 1);
        x.run(8);
        Check.due("trace", Check.trace(x), "000000..000");
        Check.due("results", Check.results(x, 0), "3 3 0 2 0 4");
    }

    private static void skipUnderAnotherPolicy() {
        CeilingWorkbench x = one(4, 2, 0, 3);
        x.setPolicy(2);
        x.run(3);
        x.setPolicy(0);
        x.run(9);
        Check.due("trace", Check.trace(x), "000.....000.");
        Check.due("results", Check.results(x, 0), "2 2 0 1 0 3");
        x.run(1);
        Check.due("no skip under continue", Check.trace(x), "000.....000.0");
    }

    private static void abortOfALaterJob() {
        CeilingWorkbench x = one(4, 2, 0, 9);
        x.run(5);
        Check.due("pending", x.pending(0), 2);
        x.setPolicy(1);
        Check.due("run(2)", x.run(2), 0);
        Check.due("the second is removed", x.pending(0), 1);
        Check.due("results", Check.results(x, 0), "0 2 1 0 0 0");
        Check.due("the first runs on", x.run(2), 1);
        Check.due("results", Check.results(x, 0), "1 2 1 0 0 9");
        Check.due("the third", x.pending(0), 1);
        Check.due("run(2)", x.run(2), 0);
        Check.due("it is removed after others are gone", Check.results(x, 0), "1 3 2 0 0 9");
        Check.due("nothing waits", x.pending(0), 0);
        CeilingWorkbench y = one(4, 2, 0, 5);
        y.run(9);
        y.setPolicy(1);
        // At 10 the first two jobs are finished, and the third one is due.
        y.run(2);
        Check.due("results", Check.results(y, 0), "2 3 1 0 0 6");
        Check.due("pending", y.pending(0), 0);
    }

    private static void removedHolderHoldsNothing() {
        CeilingWorkbench x = new CeilingWorkbench();
        x.addTask(5, 20, 20, 1);
        x.addTask(1, 20, 2, 0);
        x.addSegment(0, 0, 3);
        x.addSegment(1, 0, 5);
        x.setPolicy(1);
        x.run(2);
        Check.due("holder", x.holder(0), 1);
        x.run(1);
        Check.due("the other one holds it", x.holder(0), 0);
        Check.due("trace", Check.trace(x), "110");
        Check.due("a removed job is not preempted", Check.results(x, 1), "0 1 1 0 0 0");
        x.run(18);
        Check.due("begins anew", x.holder(0), 1);
        x.run(1);
        Check.due("trace", Check.trace(x), "11000...............11");
    }

    private static void nextJobRunsAfterRemoval() {
        CeilingWorkbench x = one(4, 4, 0, 6);
        x.setPolicy(1);
        x.run(8);
        Check.due("trace", Check.trace(x), "00000000");
        Check.due("results", Check.results(x, 0), "0 1 1 0 0 0");
        Check.due("pending", x.pending(0), 1);
        x.setPolicy(0);
        x.run(1);
        Check.due("pending", x.pending(0), 2);
        Check.due("the job of time 4 has 6 units to do", x.run(1), 1);
        Check.due("results", Check.results(x, 0), "1 2 1 0 0 6");
    }

    private static void preemptions() {
        CeilingWorkbench x = new CeilingWorkbench();
        addTask(x, 1, 60, 60, 0, 7);
        addTask(x, 5, 60, 60, 1, 1);
        addTask(x, 7, 60, 60, 2, 1);
        x.setServer(9, 1, 4);
        x.request(5, 2);
        x.run(11);
        Check.due("trace", Check.trace(x), "01200S000S0");
        // The unit of time 2 preempts nothing, as task 0 did not run in the unit of time 1.
        Check.due("preemptions", x.result(0, 4), 3);
        Check.due("preemptions", x.result(1, 4), 0);
        Check.due("preemptions", x.result(2, 4), 0);
    }

    private static void onlyThisVeryJobIsPreempted() {
        CeilingWorkbench x = new CeilingWorkbench();
        addTask(x, 1, 3, 3, 0, 4);
        addTask(x, 5, 60, 60, 4, 1);
        x.run(5);
        Check.due("trace", Check.trace(x), "00001");
        Check.due("the second job has not run", x.pending(0), 1);
        Check.due("preemptions", x.result(0, 4), 0);
        CeilingWorkbench y = new CeilingWorkbench();
        addTask(y, 1, 3, 3, 0, 4);
        addTask(y, 5, 60, 60, 5, 1);
        y.run(6);
        Check.due("trace", Check.trace(y), "000001");
        Check.due("preemptions", y.result(0, 4), 1);
    }

    private static void fiveTasks() {
        CeilingWorkbench x = new CeilingWorkbench();
        for (int task = 0; task < 5; task++) {
            x.addTask(task + 1, 20, 20, 4 - task);
            for (int k = 0; k < 6; k++) {
                x.addSegment(task, k % 5 - 1, 1);
            }
        }
        x.run(31);
        Check.due("trace", Check.trace(x).substring(0, 10), "4444443333");
        Check.due("no holder between units", x.holder(0), -1);
        Check.due("finished", x.result(4, 0), 2);
        Check.due("finished", x.result(0, 0), 0);
        Check.due("utilization", x.utilization(), 1.0);
    }

    private static void averages() {
        CeilingWorkbench x = new CeilingWorkbench();
        addTask(x, 1, 10, 10, 0, 3);
        addTask(x, 5, 20, 20, 0, 1);
        Check.due("no job", Check.answer(() -> x.averageResponse(0)), "ArithmeticException");
        x.run(3);
        Check.due("no job finished", Check.answer(() -> x.averageResponse(0)), "ArithmeticException");
        x.run(97);
        // Responses 4, 3, 4, 3, ...
        Check.due("average", x.averageResponse(0), 3.5f);
        x.run(5);
        Check.due("average", x.averageResponse(0), 39f / 11f);
        Check.due("average", x.averageResponse(1), 1f);
        Check.due("greatest response", x.result(0, 5), 4);
    }

    private static void rewind() {
        for (int policy = 0; policy < 3; policy++) {
            for (int units = 0; units <= 40; units++) {
                rewindAt(units, policy);
            }
        }
    }

    private static void rewindAt(int units, int policy) {
        CeilingWorkbench x = Check.busyBench(policy);
        CeilingWorkbench y = Check.busyBench(policy);
        for (int k = 0; k < units; k++) {
            x.run(1);
        }
        x.request(40, 3);
        y.request(40, 3);
        Check.due("rewind", x.rewind(), units);
        Check.due("as if no unit had been made", View.of(x), View.of(y));
        Check.due("run", x.run(70), y.run(70));
        Check.due("the same again", View.of(x), View.of(y));
        Check.due("rewind", x.rewind(), 70);
        Check.due("policy stays", x.setPolicy(0), policy);
    }

    private static void ranAtAndUtilization() {
        CeilingWorkbench x = one(4, 4, 1, 1);
        Check.due("utilization at 0", Check.answer(x::utilization), "ArithmeticException");
        x.setServer(9, 1, 5);
        x.request(0, 2);
        x.run(7);
        Check.due("trace", Check.trace(x), "S0...S0");
        int[] due = {9, 0, -1, -1, -1, 9, 0};
        for (int time = 0; time < 7; time++) {
            Check.due("ranAt(" + time + ")", x.ranAt(time), due[time]);
        }
        Check.due("units of the server are not idle", x.utilization(), 4.0 / 7.0);
        int[] wrong = {-1, 7, 8, 400, LEAST, GREATEST};
        for (int time : wrong) {
            Check.refused(x, "ranAt of no unit", INDEX, () -> x.ranAt(time));
        }
        x.rewind();
        Check.refused(x, "ranAt after rewind", INDEX, () -> x.ranAt(0));
        Check.due("utilization after rewind", Check.answer(x::utilization), "ArithmeticException");
    }

    private static void wrongTasksAndResources() {
        CeilingWorkbench x = one(5, 5, 0, 2);
        x.run(1);
        for (int task : NO_TASK) {
            Check.refused(x, "pending", INDEX, () -> x.pending(task));
            Check.refused(x, "activePriority", INDEX, () -> x.activePriority(task));
            Check.refused(x, "result", INDEX, () -> x.result(task, 0));
            Check.refused(x, "result: the task before what", INDEX, () -> x.result(task, 6));
            Check.refused(x, "averageResponse", INDEX, () -> x.averageResponse(task));
        }
        int[] noResult = {-1, 6, LEAST, GREATEST};
        for (int what : noResult) {
            Check.refused(x, "result without such a number", ARGUMENT, () -> x.result(0, what));
        }
        int[] noResource = {-1, 4, LEAST, GREATEST};
        for (int resource : noResource) {
            Check.refused(x, "holder of no resource", INDEX, () -> x.holder(resource));
        }
        Check.refused(x, "no job is finished", ArithmeticException.class, () -> x.averageResponse(0));
        x.run(1);
        Check.refused(x, "no job", java.util.NoSuchElementException.class, () -> x.activePriority(0));
    }
}
