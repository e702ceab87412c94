/** Promises 1 to 7, 11 and 12: what is configured by calls. */
public final class ConfigurationTest {
    private static final Class<IllegalArgumentException> ARGUMENT = IllegalArgumentException.class;
    private static final Class<IllegalStateException> STATE = IllegalStateException.class;
    private static final Class<UnsupportedOperationException> TAKEN = UnsupportedOperationException.class;
    private static final Class<IndexOutOfBoundsException> INDEX = IndexOutOfBoundsException.class;
    private static final int LEAST = Integer.MIN_VALUE;
    private static final int GREATEST = Integer.MAX_VALUE;

    public static void main(String[] args) {
        newObject();
        clear();
        clearKeepsTextErrorAndSnapshot();
        addTask();
        addTaskChecksInOrder();
        addSegment();
        addSegmentChecksInOrder();
        setServer();
        setServerChecksInOrder();
        request();
        requestWithoutServer();
        setPolicy();
        taskCountAndTask();
        Check.end("ConfigurationTest");
    }

    private static void newObject() {
        CeilingWorkbench x = new CeilingWorkbench();
        Check.due("new: taskCount", x.taskCount(), 0);
        Check.due("new: clock", x.clock(), 0);
        Check.due("new: policy", x.setPolicy(0), 0);
        Check.due("new: balance", Check.answer(x::balance), "IllegalStateException");
        Check.due("new: nextReplenishment", Check.answer(x::nextReplenishment), "IllegalStateException");
        Check.due("new: requestResponse", Check.answer(() -> x.requestResponse(0)), "IndexOutOfBoundsException");
        Check.due("new: errorPosition", Check.answer(x::errorPosition), "NoSuchElementException");
        Check.due("new: restore", Check.answer(x::restore), "IllegalStateException");
        Check.due("new: ranAt", Check.answer(() -> x.ranAt(0)), "IndexOutOfBoundsException");
        Check.due("new: isSchedulable", x.isSchedulable(), true);
        Check.due("new: load", x.load(), 0.0);
        Check.due("new: hyperbolicLoad", x.hyperbolicLoad(), 1.0);
        for (int r = 0; r < 4; r++) {
            Check.due("new: ceiling", x.ceiling(r), 0);
            Check.due("new: holder", x.holder(r), -1);
        }
        Check.due("new: append", x.append('x'), 1);
        Check.due("new: run", x.run(5), 0);
        Check.due("new: idle", Check.trace(x), ".....");
        Check.due("new: idle utilization", x.utilization(), 0.0);
    }

    private static void clear() {
        CeilingWorkbench x = new CeilingWorkbench();
        Check.due("clear of nothing", x.clear(), 0);
        x.addTask(5, 2, 1, 0);
        x.addTask(6, 9, 9, 1);
        x.addSegment(0, 3, 2);
        x.addSegment(1, 3, 2);
        x.setServer(7, 2, 9);
        x.request(0, 1);
        x.setPolicy(2);
        x.run(7);
        Check.due("clear", x.clear(), 2);
        Check.due("cleared", View.of(x), View.of(new CeilingWorkbench()));
        Check.due("clear again", x.clear(), 0);
        // The places of the removed tasks, requests and resources are as new.
        Check.due("addTask", x.addTask(7, 4, 4, 0), 0);
        Check.due("segments", x.task(0, 4), 0);
        Check.due("addSegment", x.addSegment(0, -1, 1), 1);
        Check.due("results", Check.results(x, 0), "0 0 0 0 0 0");
        Check.due("request", x.request(0, 3), 0);
        Check.due("ceiling", x.ceiling(3), 0);
        Check.due("setServer", x.setServer(6, 3, 5), false);
        Check.due("balance", x.balance(), 3);
        Check.due("run", x.run(5), 2);
        Check.due("trace", Check.trace(x), "0SSS0");
    }

    private static void clearKeepsTextErrorAndSnapshot() {
        CeilingWorkbench x = new CeilingWorkbench();
        x.addTask(5, 10, 10, 0);
        x.run(3);
        x.snapshot();
        Check.configured(x, "policies");
        Check.typed(x, "policy a");
        Check.due("clear", x.clear(), 1);
        Check.due("error position stays", x.errorPosition(), 5);
        Check.typed(x, "bort");
        Check.due("buffer stays", x.configure(), 0);
        Check.due("policy of the buffer", x.setPolicy(0), 1);
        Check.due("snapshot stays", x.restore(), 3);
        Check.due("tasks of the snapshot", x.taskCount(), 1);
    }

    private static void addTask() {
        CeilingWorkbench x = new CeilingWorkbench();
        int[][] wrong = {{0, 9, 9, 0}, {10, 9, 9, 0}, {LEAST, 9, 9, 0}, {GREATEST, 9, 9, 0}, {5, 0, 1, 0},
            {5, 0, 0, 0}, {5, 61, 9, 0}, {5, LEAST, 9, 0}, {5, GREATEST, 9, 0}, {5, 9, 0, 0}, {5, 9, 10, 0},
            {5, 9, LEAST, 0}, {5, 9, GREATEST, 0}, {5, 9, 9, -1}, {5, 9, 9, 61}, {5, 9, 9, LEAST},
            {5, 9, 9, GREATEST}};
        for (int[] a : wrong) {
            Check.refused(x, "addTask out of range", ARGUMENT, () -> x.addTask(a[0], a[1], a[2], a[3]));
        }
        Check.due("addTask", x.addTask(1, 1, 1, 0), 0);
        Check.due("addTask", x.addTask(9, 60, 60, 60), 1);
        Check.due("addTask", x.addTask(5, 60, 1, 0), 2);
        Check.refused(x, "addTask with a task's priority", TAKEN, () -> x.addTask(5, 3, 3, 0));
        x.setServer(4, 1, 1);
        Check.refused(x, "addTask with the server's priority", TAKEN, () -> x.addTask(4, 3, 3, 0));
        Check.due("addTask", x.addTask(3, 3, 3, 0), 3);
        Check.due("addTask", x.addTask(2, 3, 3, 0), 4);
        Check.refused(x, "the 6th addTask", STATE, () -> x.addTask(6, 3, 3, 0));
        x.clear();
        x.run(1);
        Check.refused(x, "addTask at clock 1", STATE, () -> x.addTask(6, 3, 3, 0));
        x.rewind();
        Check.due("addTask after rewind", x.addTask(6, 3, 3, 0), 0);
    }

    private static void addTaskChecksInOrder() {
        CeilingWorkbench x = new CeilingWorkbench();
        for (int priority = 1; priority <= 5; priority++) {
            x.addTask(priority, 10, 10, 0);
        }
        Check.refused(x, "range before count", ARGUMENT, () -> x.addTask(5, 10, 11, 0));
        Check.refused(x, "count before priority", STATE, () -> x.addTask(5, 10, 10, 0));
        x.run(1);
        Check.refused(x, "range before clock", ARGUMENT, () -> x.addTask(0, 10, 10, 0));
        Check.refused(x, "clock before priority", STATE, () -> x.addTask(5, 10, 10, 0));
    }

    private static void addSegment() {
        CeilingWorkbench x = new CeilingWorkbench();
        Check.refused(x, "addSegment without tasks", INDEX, () -> x.addSegment(0, 0, 1));
        x.addTask(5, 20, 20, 0);
        x.addTask(6, 20, 20, 0);
        int[][] wrong = {{-2, 1}, {4, 1}, {LEAST, 1}, {GREATEST, 1}, {0, 0}, {0, 10}, {0, LEAST}, {0, GREATEST}};
        for (int[] a : wrong) {
            Check.refused(x, "addSegment out of range", ARGUMENT, () -> x.addSegment(1, a[0], a[1]));
        }
        int[] noTask = {-1, 2, LEAST, GREATEST};
        for (int task : noTask) {
            Check.refused(x, "addSegment of no task", INDEX, () -> x.addSegment(task, 0, 1));
        }
        for (int k = 1; k <= 6; k++) {
            Check.due("addSegment", x.addSegment(1, k % 5 - 1, k), k);
        }
        Check.refused(x, "the 7th addSegment", STATE, () -> x.addSegment(1, 0, 1));
        Check.due("demand", x.task(1, 5), 21);
        Check.due("addSegment of the other", x.addSegment(0, -1, 9), 1);
        x.run(1);
        Check.refused(x, "addSegment at clock 1", STATE, () -> x.addSegment(0, 0, 1));
        x.rewind();
        Check.due("addSegment after rewind", x.addSegment(0, 3, 1), 2);
    }

    private static void addSegmentChecksInOrder() {
        CeilingWorkbench x = new CeilingWorkbench();
        x.addTask(5, 20, 20, 0);
        x.run(1);
        Check.refused(x, "task before range", INDEX, () -> x.addSegment(1, 4, 0));
        Check.refused(x, "task before clock", INDEX, () -> x.addSegment(1, 0, 1));
        Check.refused(x, "range before clock", ARGUMENT, () -> x.addSegment(0, 0, 0));
        Check.refused(x, "clock", STATE, () -> x.addSegment(0, 0, 1));
    }

    private static void setServer() {
        CeilingWorkbench x = new CeilingWorkbench();
        x.addTask(5, 10, 10, 0);
        int[][] wrong = {{0, 1, 1}, {10, 1, 1}, {LEAST, 1, 1}, {GREATEST, 1, 1}, {1, 0, 1}, {1, 10, 1},
            {1, LEAST, 1}, {1, GREATEST, 1}, {1, 1, 0}, {1, 1, 61}, {1, 1, LEAST}, {1, 1, GREATEST}};
        for (int[] a : wrong) {
            Check.refused(x, "setServer out of range", ARGUMENT, () -> x.setServer(a[0], a[1], a[2]));
        }
        Check.refused(x, "setServer with a task's priority", TAKEN, () -> x.setServer(5, 1, 1));
        Check.due("setServer", x.setServer(1, 9, 60), false);
        Check.due("setServer with its own priority", x.setServer(1, 1, 1), true);
        Check.due("balance", x.balance(), 1);
        Check.due("setServer", x.setServer(9, 2, 4), true);
        Check.due("balance", x.balance(), 2);
        Check.due("load", x.load(), 0.5);
        Check.refused(x, "setServer with a task's priority", TAKEN, () -> x.setServer(5, 1, 1));
        Check.due("the old server's priority is free", x.addTask(1, 10, 10, 0), 1);
        x.request(0, 2);
        x.run(2);
        Check.refused(x, "setServer at clock 2", STATE, () -> x.setServer(9, 1, 1));
        x.rewind();
        Check.due("setServer after rewind", x.setServer(8, 1, 3), true);
        x.run(5);
        Check.due("the new server serves", Check.trace(x), "S..S.");
    }

    private static void setServerChecksInOrder() {
        CeilingWorkbench x = new CeilingWorkbench();
        x.addTask(5, 10, 10, 0);
        Check.refused(x, "range before priority", ARGUMENT, () -> x.setServer(5, 0, 1));
        x.run(1);
        Check.refused(x, "range before clock", ARGUMENT, () -> x.setServer(5, 1, 61));
        Check.refused(x, "clock before priority", STATE, () -> x.setServer(5, 1, 1));
    }

    private static void request() {
        CeilingWorkbench x = new CeilingWorkbench();
        int[][] wrong = {{-1, 1}, {301, 1}, {LEAST, 1}, {GREATEST, 1}, {0, 0}, {0, 10}, {0, LEAST}, {0, GREATEST}};
        for (int[] a : wrong) {
            Check.refused(x, "request out of range", ARGUMENT, () -> x.request(a[0], a[1]));
        }
        x.setServer(1, 9, 9);
        Check.due("request", x.request(300, 9), 0);
        Check.due("request", x.request(0, 1), 1);
        x.run(4);
        Check.refused(x, "request of the past", ARGUMENT, () -> x.request(3, 1));
        Check.due("request of the clock", x.request(4, 1), 2);
        for (int k = 3; k < 12; k++) {
            Check.due("request", x.request(50 + k, 1), k);
        }
        Check.refused(x, "the 13th request", STATE, () -> x.request(60, 1));
        Check.refused(x, "range before count", ARGUMENT, () -> x.request(60, 0));
        Check.refused(x, "the past before the count", ARGUMENT, () -> x.request(0, 1));
        x.run(1);
        Check.due("served at its time", x.requestResponse(2), 1);
        x.rewind();
        Check.refused(x, "the requests stay", STATE, () -> x.request(0, 1));
    }

    private static void requestWithoutServer() {
        CeilingWorkbench x = new CeilingWorkbench();
        Check.due("request", x.request(0, 1), 0);
        x.run(100);
        Check.due("never served", Check.answer(() -> x.requestResponse(0)), "IllegalStateException");
        Check.due("idle", x.utilization(), 0.0);
        x.rewind();
        x.setServer(3, 1, 1);
        x.run(1);
        Check.due("served", x.requestResponse(0), 1);
    }

    private static void setPolicy() {
        CeilingWorkbench x = new CeilingWorkbench();
        Check.due("setPolicy", x.setPolicy(2), 0);
        int[] wrong = {-1, 3, LEAST, GREATEST};
        for (int policy : wrong) {
            Check.refused(x, "setPolicy out of range", ARGUMENT, () -> x.setPolicy(policy));
        }
        Check.due("setPolicy", x.setPolicy(1), 2);
        x.run(1);
        Check.due("setPolicy at clock 1", x.setPolicy(0), 1);
        Check.due("setPolicy", x.setPolicy(0), 0);
    }

    private static void taskCountAndTask() {
        CeilingWorkbench x = new CeilingWorkbench();
        Check.refused(x, "task of none", INDEX, () -> x.task(0, 0));
        x.addTask(7, 40, 30, 20);
        Check.due("taskCount", x.taskCount(), 1);
        x.addTask(8, 41, 31, 21);
        Check.due("taskCount", x.taskCount(), 2);
        x.addSegment(1, 2, 4);
        x.addSegment(1, -1, 5);
        int[][] due = {{7, 40, 30, 20, 0, 0}, {8, 41, 31, 21, 2, 9}};
        for (int task = 0; task < 2; task++) {
            for (int what = 0; what < 6; what++) {
                Check.due("task(" + task + ", " + what + ")", x.task(task, what), due[task][what]);
            }
        }
        int[] noTask = {-1, 2, LEAST, GREATEST};
        for (int task : noTask) {
            Check.refused(x, "task of no task", INDEX, () -> x.task(task, 0));
            Check.refused(x, "the task before what", INDEX, () -> x.task(task, 6));
        }
        int[] noProperty = {-1, 6, LEAST, GREATEST};
        for (int what : noProperty) {
            Check.refused(x, "task without such a property", ARGUMENT, () -> x.task(1, what));
        }
    }
}
