import java.util.NoSuchElementException;
import java.util.function.BiFunction;
import java.util.function.Supplier;

/** What the tests of boundary cases have in common: ranges, indices, and workbenches to try them on. */
final class Edges {
    static final Class<IllegalArgumentException> ARGUMENT = IllegalArgumentException.class;
    static final Class<IllegalStateException> STATE = IllegalStateException.class;
    static final Class<UnsupportedOperationException> TAKEN = UnsupportedOperationException.class;
    static final Class<IndexOutOfBoundsException> INDEX = IndexOutOfBoundsException.class;
    static final Class<NoSuchElementException> NO_SUCH = NoSuchElementException.class;
    static final Class<ArithmeticException> ARITHMETIC = ArithmeticException.class;
    static final int LEAST = Integer.MIN_VALUE;
    static final int GREATEST = Integer.MAX_VALUE;

    /** A call with one number, the one that is tried. */
    interface NumberCall extends BiFunction<CeilingWorkbench, Integer, Object> {
    }

    private Edges() {
    }

    /** Every number of the range is taken; the first one beyond each end, and the farthest, are refused. */
    static void range(String call, int least, int greatest, Class<? extends RuntimeException> refusal,
            Supplier<CeilingWorkbench> maker, NumberCall made) {
        for (int number = least; number <= greatest; number++) {
            int taken = number;
            Object answer = Check.answer(() -> made.apply(maker.get(), taken));
            // An exception would be told by its name.
            Check.due(call + " takes " + number, answer instanceof String ? answer : "an answer", "an answer");
        }
        CeilingWorkbench x = maker.get();
        int[] beyond = {LEAST, least - 1, greatest + 1, GREATEST};
        for (int number : beyond) {
            Check.refused(x, call + " of " + number, refusal, () -> made.apply(x, number));
        }
    }

    /** Without tasks and with each number of them: a task that is there is taken, another one refused. */
    static void taskIndex(String call, int units, NumberCall made) {
        for (int count = 0; count <= 5; count++) {
            int tasks = count;
            range(call + " among " + count + " tasks", 0, count - 1, INDEX, () -> withTasks(tasks, units), made);
        }
    }

    static void resourceIndex(String call, NumberCall made) {
        range(call, 0, 3, INDEX, CeilingWorkbench::new, made);
        range(call + " at clock 20", 0, 3, INDEX, () -> withTasks(5, 20), made);
    }

    /** Tasks of two units each, all released at 0, the first one with the lowest priority. */
    static CeilingWorkbench withTasks(int count, int units) {
        CeilingWorkbench x = new CeilingWorkbench();
        for (int task = 0; task < count; task++) {
            addTask(x, task + 1, 60, 60, 0, 2);
        }
        runAll(x, units);
        return x;
    }

    /** A workbench with one task of the priority 5 that needs no resource. */
    static CeilingWorkbench one(int period, int deadline, int offset, int... lengths) {
        CeilingWorkbench x = new CeilingWorkbench();
        addTask(x, 5, period, deadline, offset, lengths);
        return x;
    }

    static int addTask(CeilingWorkbench x, int priority, int period, int deadline, int offset, int... lengths) {
        int task = x.addTask(priority, period, deadline, offset);
        for (int length : lengths) {
            x.addSegment(task, -1, length);
        }
        return task;
    }

    static CeilingWorkbench withServer(int priority, int budget, int period) {
        CeilingWorkbench x = new CeilingWorkbench();
        x.setServer(priority, budget, period);
        return x;
    }

    static CeilingWorkbench at(int clock) {
        CeilingWorkbench x = new CeilingWorkbench();
        runAll(x, clock);
        return x;
    }

    /** As many units as are wanted, in calls of at most 100; returns the number of finished jobs. */
    static int runAll(CeilingWorkbench x, int units) {
        int finished = 0;
        for (int left = units; left > 0; left -= 100) {
            finished += x.run(Math.min(left, 100));
        }
        return finished;
    }

    /** Five tasks of six segments, a server, twelve requests, a full buffer, a snapshot and an error position. */
    static CeilingWorkbench full() {
        CeilingWorkbench x = new CeilingWorkbench();
        for (int task = 0; task < 5; task++) {
            x.addTask(2 * task + 1, 60 - task, 50 - task, task);
            for (int k = 0; k < 6; k++) {
                x.addSegment(task, k % 5 - 1, 1 + (k + task) % 3);
            }
        }
        x.setServer(6, 9, 60);
        for (int k = 0; k < 12; k++) {
            x.request(k * 25, 1 + k % 9);
        }
        x.snapshot();
        Check.configured(x, "tusk");
        Check.typed(x, "policy skip".repeat(6).substring(0, 60));
        return x;
    }

    static void dueServer(CeilingWorkbench x, int balance, Object next) {
        Check.due("balance at " + x.clock(), x.balance(), balance);
        Check.due("nextReplenishment at " + x.clock(), Check.answer(x::nextReplenishment), next);
    }
}
