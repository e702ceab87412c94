/** Promises 13 to 19: ceilings, blocking, bounds, the witness and the loads. */
public final class AnalysisTest {
    private static final Class<IllegalStateException> STATE = IllegalStateException.class;
    private static final Class<IndexOutOfBoundsException> INDEX = IndexOutOfBoundsException.class;
    private static final String NO_SUCH = "NoSuchElementException";
    private static final int LEAST = Integer.MIN_VALUE;
    private static final int GREATEST = Integer.MAX_VALUE;

    public static void main(String[] args) {
        ceilings();
        blocking();
        boundsAndWitnesses();
        boundsOfFullTasks();
        boundsWithServer();
        boundsUpToThousand();
        wrongTasks();
        schedulable();
        loads();
        Check.end("AnalysisTest");
    }

    private static void ceilings() {
        CeilingWorkbench x = new CeilingWorkbench();
        x.addTask(5, 20, 20, 0);
        x.addTask(7, 20, 20, 0);
        x.addTask(2, 20, 20, 0);
        x.setServer(9, 1, 9);
        x.addSegment(0, 1, 2);
        Check.due("ceiling of one user", x.ceiling(1), 5);
        x.addSegment(2, 1, 2);
        Check.due("ceiling with a lower user", x.ceiling(1), 5);
        x.addSegment(1, 1, 2);
        Check.due("ceiling with a greater user", x.ceiling(1), 7);
        x.addSegment(1, -1, 2);
        x.addSegment(2, 3, 2);
        Check.due("ceiling(3)", x.ceiling(3), 2);
        Check.due("ceiling(0)", x.ceiling(0), 0);
        Check.due("ceiling(2)", x.ceiling(2), 0);
        x.run(10);
        Check.due("ceiling at clock 10", x.ceiling(1), 7);
        int[] none = {-1, 4, LEAST, GREATEST};
        for (int resource : none) {
            Check.refused(x, "ceiling of no resource", INDEX, () -> x.ceiling(resource));
        }
    }

    private static void blocking() {
        CeilingWorkbench x = new CeilingWorkbench();
        x.addTask(5, 20, 20, 0);
        x.addTask(7, 20, 20, 0);
        x.addTask(2, 20, 20, 0);
        x.addTask(1, 20, 20, 0);
        x.addSegment(3, 0, 9);
        Check.due("the ceiling is lower than the priority", x.blocking(1), 0);
        x.addSegment(1, 0, 3);
        Check.due("blocked by a shared resource", x.blocking(1), 8);
        Check.due("blocked through a ceiling above", x.blocking(0), 8);
        Check.due("also without a segment of its own", x.blocking(2), 8);
        Check.due("nothing is below the lowest", x.blocking(3), 0);
        x.addSegment(2, -1, 9);
        Check.due("no resource, no blocking", x.blocking(0), 8);
        CeilingWorkbench y = new CeilingWorkbench();
        y.addTask(5, 20, 20, 0);
        y.addTask(2, 20, 20, 0);
        y.addSegment(0, 1, 9);
        y.addSegment(1, 1, 1);
        Check.due("a segment of one unit does not block", y.blocking(0), 0);
        y.addSegment(1, 2, 9);
        Check.due("its resource has a lower ceiling", y.blocking(0), 0);
        y.addSegment(1, 1, 4);
        y.addSegment(1, 1, 3);
        Check.due("the greatest one alone", y.blocking(0), 3);
        Check.due("a greater priority does not block", y.blocking(1), 0);
        CeilingWorkbench z = new CeilingWorkbench();
        z.addTask(2, 20, 20, 0);
        z.addTask(5, 20, 20, 0);
        z.addSegment(0, 0, 4);
        z.addSegment(1, 0, 9);
        Check.due("blocked by a task with a lower number", z.blocking(1), 3);
        z.clear();
        Check.due("ceilings are cleared", z.ceiling(0), 0);
    }

    private static void boundsAndWitnesses() {
        CeilingWorkbench x = new CeilingWorkbench();
        x.addTask(9, 4, 4, 50);
        x.addTask(8, 6, 6, 0);
        x.addTask(7, 10, 10, 0);
        x.addTask(1, 60, 60, 0);
        x.addSegment(0, -1, 1);
        x.addSegment(1, 0, 2);
        x.addSegment(2, -1, 3);
        due(x, 0, 1);
        due(x, 1, 3);
        // 3 + 1 * 3 + 2 * 2 = 10
        due(x, 2, 10);
        x.addSegment(3, 0, 4);
        due(x, 0, 1);
        // 3 blocked + 2 + 1 * 2 = 7
        due(x, 1, 7);
        // 3 blocked + 3 + 1 * 4 + 2 * 3 = 16
        due(x, 2, 16);
    }

    private static void due(CeilingWorkbench x, int task, int want) {
        Check.due("bound(" + task + ")", Check.answer(() -> x.bound(task)), want);
        Check.due("witness(" + task + ")", Check.answer(() -> x.witness(task)), want);
    }

    private static void boundsOfFullTasks() {
        CeilingWorkbench x = new CeilingWorkbench();
        for (int task = 0; task < 5; task++) {
            x.addTask(9 - task, 60, 60, 0);
            for (int k = 0; k < 6; k++) {
                x.addSegment(task, 3, k == 5 ? 3 : 1);
            }
        }
        for (int task = 0; task < 4; task++) {
            Check.due("blocking(" + task + ")", x.blocking(task), 2);
            due(x, task, 8 * (task + 1) + 2);
        }
        Check.due("blocking(4)", x.blocking(4), 0);
        due(x, 4, 40);
        Check.due("schedulable", x.isSchedulable(), true);
        Check.due("load", x.load(), 8.0 / 60.0 + 8.0 / 60.0 + 8.0 / 60.0 + 8.0 / 60.0 + 8.0 / 60.0);
    }

    private static void boundsWithServer() {
        CeilingWorkbench x = new CeilingWorkbench();
        x.addTask(5, 10, 10, 0);
        x.addSegment(0, -1, 4);
        due(x, 0, 4);
        x.setServer(4, 3, 5);
        due(x, 0, 4);
        x.setServer(6, 3, 5);
        // 4 + 3 * 2 = 10
        due(x, 0, 10);
        x.setServer(6, 2, 7);
        due(x, 0, 6);
    }

    private static void boundsUpToThousand() {
        CeilingWorkbench x = new CeilingWorkbench();
        x.addTask(9, 1, 1, 0);
        x.addTask(1, 60, 60, 0);
        x.addSegment(1, -1, 1);
        due(x, 1, 1);
        x.addSegment(0, -1, 1);
        Check.due("bound", Check.answer(() -> x.bound(1)), NO_SUCH);
        Check.due("witness", Check.answer(() -> x.witness(1)), NO_SUCH);
        Check.due("not schedulable", x.isSchedulable(), false);
        CeilingWorkbench y = belowFullTask(50, 49, 0, 20);
        due(y, 1, 1000);
        y.addSegment(1, -1, 1);
        Check.due("bound of 1050", Check.answer(() -> y.bound(1)), NO_SUCH);
        Check.due("witness of 1050", Check.answer(() -> y.witness(1)), NO_SUCH);
        due(belowFullTask(59, 54, 2, 48), 1, 944);
        CeilingWorkbench z = belowFullTask(59, 54, 2, 49);
        Check.due("bound of 1001", Check.answer(() -> z.bound(1)), NO_SUCH);
        Check.due("witness of 1001", Check.answer(() -> z.witness(1)), NO_SUCH);
    }

    /** Task 1 gets only the units at the end of each period that task 0 and the server leave. */
    private static CeilingWorkbench belowFullTask(int period, int demand, int budget, int ownDemand) {
        CeilingWorkbench x = new CeilingWorkbench();
        x.addTask(9, period, period, 0);
        x.addTask(1, 60, 60, 0);
        addUnits(x, 0, demand);
        addUnits(x, 1, ownDemand);
        if (budget > 0) {
            x.setServer(8, budget, period);
        }
        return x;
    }

    private static void addUnits(CeilingWorkbench x, int task, int units) {
        for (int left = units; left > 0; left -= 9) {
            x.addSegment(task, -1, Math.min(left, 9));
        }
    }

    private static void wrongTasks() {
        CeilingWorkbench x = new CeilingWorkbench();
        x.addTask(5, 10, 10, 0);
        int[] none = {-1, 1, LEAST, GREATEST};
        for (int task : none) {
            Check.refused(x, "blocking of no task", INDEX, () -> x.blocking(task));
            Check.refused(x, "bound of no task", INDEX, () -> x.bound(task));
            Check.refused(x, "witness of no task", INDEX, () -> x.witness(task));
        }
        Check.refused(x, "bound without segments", STATE, () -> x.bound(0));
        Check.refused(x, "witness without segments", STATE, () -> x.witness(0));
        Check.due("blocking without segments", x.blocking(0), 0);
    }

    private static void schedulable() {
        CeilingWorkbench x = new CeilingWorkbench();
        x.addTask(5, 10, 4, 0);
        Check.due("without segments", x.isSchedulable(), true);
        x.addSegment(0, 0, 4);
        Check.due("a bound equal to the deadline", x.isSchedulable(), true);
        x.addTask(3, 10, 6, 0);
        x.addSegment(1, 0, 1);
        Check.due("two tasks", x.isSchedulable(), true);
        x.addSegment(1, 0, 2);
        Check.due("blocking makes a bound of 5", x.isSchedulable(), false);
        CeilingWorkbench z = new CeilingWorkbench();
        z.addTask(5, 1, 1, 0);
        z.addSegment(0, -1, 1);
        Check.due("a bound of 1", z.isSchedulable(), true);
        Check.due("load of a period of 1", z.load(), 1.0);
        z.addTask(6, 1, 1, 0);
        z.addSegment(1, -1, 1);
        Check.due("a task without a bound", z.isSchedulable(), false);
        z.clear();
        z.addTask(5, 2, 2, 0);
        Check.due("demands are cleared", z.load(), 0.0);
        CeilingWorkbench y = new CeilingWorkbench();
        y.addTask(5, 10, 3, 0);
        y.addSegment(0, -1, 2);
        y.setServer(9, 2, 10);
        Check.due("the server delays too much", y.isSchedulable(), false);
        y.setServer(9, 1, 10);
        Check.due("the server delays by 1", y.isSchedulable(), true);
    }

    private static void loads() {
        CeilingWorkbench x = new CeilingWorkbench();
        x.addTask(5, 10, 10, 0);
        Check.due("load without segments", x.load(), 0.0);
        Check.due("hyperbolicLoad without segments", x.hyperbolicLoad(), 1.0);
        x.addTask(3, 3, 3, 0);
        x.addTask(4, 7, 7, 0);
        x.addSegment(0, -1, 1);
        x.addSegment(1, -1, 1);
        x.addSegment(2, 2, 2);
        Check.due("load", x.load(), 1.0 / 10.0 + 1.0 / 3.0 + 2.0 / 7.0);
        Check.due("hyperbolicLoad", x.hyperbolicLoad(), (1.0 / 10.0 + 1) * (1.0 / 3.0 + 1) * (2.0 / 7.0 + 1));
        x.setServer(9, 9, 11);
        Check.due("load with server", x.load(), 1.0 / 10.0 + 1.0 / 3.0 + 2.0 / 7.0 + 9.0 / 11.0);
        Check.due("hyperbolicLoad with server", x.hyperbolicLoad(),
            (1.0 / 10.0 + 1) * (1.0 / 3.0 + 1) * (2.0 / 7.0 + 1) * (9.0 / 11.0 + 1));
        x.run(20);
        Check.due("load at clock 20", x.load(), 1.0 / 10.0 + 1.0 / 3.0 + 2.0 / 7.0 + 9.0 / 11.0);
    }
}
