/** Boundary cases of the analysis: "Analysis" and the promises 13 to 19. */
final class AnalysisEdges {
    private AnalysisEdges() {
    }

    static void all() {
        analysis();
        promisesOfCeilingAndBlocking();
        promisesOfBoundAndWitness();
        promisesOfTheWhole();
    }

    private static void analysis() {
        Sentences.section("Analysis");
        Sentences.holds("The blocking of a task is the greatest number length - 1 of a segment of a task with a lower"
            + " priority that needs a resource whose ceiling is at least the priority of the task; it is 0 if there is"
            + " none.", AnalysisEdges::blocking);
        Sentences.holds("The bound of a task is the least number R that is greater than 0 and equal to its blocking"
            + " plus its demand plus, for each task of a greater priority, its demand times the quotient R / period,"
            + " rounded up, and, if there is a server of a greater priority, its budget times the quotient R / (period"
            + " of the server), rounded up.", AnalysisEdges::bounds);
        Sentences.holds("Only bounds up to 1000 are considered.", AnalysisEdges::boundsUpToThousand);
    }

    private static void promisesOfCeilingAndBlocking() {
        Sentences.section("Promise 13");
        Sentences.holds("Throws IndexOutOfBoundsException if there is no such resource",
            () -> Edges.resourceIndex("ceiling", (x, resource) -> x.ceiling(resource)));
        Sentences.section("Promise 14");
        Sentences.holds("Throws IndexOutOfBoundsException if there is no such task",
            () -> Edges.taskIndex("blocking", 0, (x, task) -> x.blocking(task)));
    }

    private static void promisesOfBoundAndWitness() {
        Sentences.section("Promise 15");
        Sentences.holds("Throws IndexOutOfBoundsException if there is no such task",
            () -> Edges.taskIndex("bound", 0, (x, task) -> x.bound(task)));
        Sentences.holds("Throws IllegalStateException if the task has no segments", AnalysisEdges::withoutSegments);
        Sentences.holds("Throws NoSuchElementException if it has no bound up to 1000",
            AnalysisEdges::boundsUpToThousand);
        Sentences.section("Promise 16");
        Sentences.holds("Returns the response of the first job of a task in this situation: for a number of units"
            + " equal to the blocking of the task, nothing but another activity can run.",
            AnalysisEdges::witnessWithBlocking);
        Sentences.holds("After these units, the processor always runs the most urgent of the job and the jobs of the"
            + " tasks of a greater priority and of the server, if its priority is greater; the job and the first of"
            + " these jobs are released at time 0, the others at all multiples of the periods; each of them runs as"
            + " long as the demand of its task, or the budget of the server; resources are not needed.",
            AnalysisEdges::witnessAmongOthers);
        Sentences.holds("Throws IndexOutOfBoundsException if there is no such task",
            () -> Edges.taskIndex("witness", 0, (x, task) -> x.witness(task)));
        Sentences.holds("Throws IllegalStateException if the task has no segments", AnalysisEdges::withoutSegments);
        Sentences.holds("Throws NoSuchElementException if the job is not finished at time 1000",
            AnalysisEdges::boundsUpToThousand);
    }

    private static void promisesOfTheWhole() {
        Sentences.section("Promise 17");
        Sentences.holds("Returns whether each task with segments has a bound that is at most its deadline.",
            AnalysisEdges::schedulable);
        Sentences.section("Promise 18");
        Sentences.holds("Returns the load: the sum of demand / period over all tasks, in their order, plus budget /"
            + " period of the server, if there is one; all numbers are converted to double before.",
            AnalysisEdges::loads);
        Sentences.section("Promise 19");
        Sentences.holds("Returns the hyperbolic load: the product, beginning with 1, of the numbers demand / period +"
            + " 1 of all tasks, in their order, and of budget / period + 1 of the server, if there is one; all numbers"
            + " are converted to double before.", AnalysisEdges::hyperbolicLoads);
    }

    private static void blocking() {
        for (int length = 1; length <= 9; length++) {
            Check.due("blocked by " + length, sharing(6, 5, length).blocking(0), length - 1);
        }
        Check.due("the ceiling is the priority itself", sharing(5, 5, 9).blocking(0), 8);
        Check.due("the ceiling is one below", sharing(4, 5, 9).blocking(0), 0);
        Check.due("not by a task of a greater priority", sharing(9, 5, 9).blocking(2), 0);
        CeilingWorkbench x = new CeilingWorkbench();
        x.addTask(5, 60, 60, 0);
        Check.due("alone", x.blocking(0), 0);
        x.addSegment(0, 0, 9);
        Check.due("not by itself", x.blocking(0), 0);
        x.addTask(4, 60, 60, 0);
        x.addSegment(1, -1, 9);
        Check.due("not without a resource", x.blocking(0), 0);
        x.addSegment(1, 0, 1);
        Check.due("one unit is 0", x.blocking(0), 0);
        x.addSegment(1, 0, 5);
        x.addSegment(1, 0, 3);
        Check.due("the greatest, not the last", x.blocking(0), 4);
        x.addTask(3, 60, 60, 0);
        x.addSegment(2, 0, 4);
        Check.due("the greatest of all tasks", x.blocking(0), 4);
        x.setServer(9, 9, 60);
        Check.due("the server does not count", x.blocking(1), 3);
        Check.due("nothing is below the lowest", x.blocking(2), 0);
    }

    /** Task 0 without segments; task 1 gives a resource its ceiling, and task 2 needs it for a length. */
    private static CeilingWorkbench sharing(int ceiling, int priority, int length) {
        CeilingWorkbench x = new CeilingWorkbench();
        x.addTask(priority, 60, 60, 0);
        if (ceiling == priority) {
            x.addSegment(0, 2, 1);
            x.addTask(9, 60, 60, 0);
        } else {
            x.addTask(ceiling, 60, 60, 0);
            x.addSegment(1, 2, 1);
        }
        x.addTask(1, 60, 60, 0);
        x.addSegment(2, 2, length);
        return x;
    }

    private static void bounds() {
        due(Edges.one(1, 1, 0, 1), 0, 1);
        due(Edges.one(60, 60, 60, 9, 9, 9, 9, 9, 9), 0, 54);
        CeilingWorkbench x = new CeilingWorkbench();
        Edges.addTask(x, 9, 4, 4, 0, 2);
        Edges.addTask(x, 5, 60, 60, 0, 2);
        due(x, 1, 4);
        x.addSegment(1, -1, 1);
        // One unit more goes beyond the next release: 3 + 2 * 2.
        due(x, 1, 7);
        x.addSegment(1, -1, 1);
        due(x, 1, 8);
        x.setServer(4, 9, 60);
        due(x, 1, 8);
        x.setServer(6, 1, 8);
        // 4 + 3 * 2 + 2 * 1
        due(x, 1, 12);
        x.setServer(6, 2, 60);
        // 4 + 3 * 2 + 1 * 2
        due(x, 1, 12);
        due(x, 0, 2);
        CeilingWorkbench y = sharing(9, 5, 9);
        y.addSegment(0, -1, 1);
        // 8 blocked + 1 + 1 of task 1
        due(y, 0, 10);
    }

    private static void boundsUpToThousand() {
        // One unit of each 50 is left: 20 * 50 is 1000, and one more goes to 1050.
        due(leaving(1, 50, 20, 0), 1, 1000);
        due(leaving(1, 50, 20, 8), 1, 1000);
        dueNone(leaving(1, 50, 21, 0), 1);
        dueNone(leaving(1, 50, 21, 8), 1);
        // Three units of each 59 are left: 16 * 59 is 944, and one more goes to 944 + 57.
        due(leaving(3, 59, 48, 0), 1, 944);
        due(leaving(3, 59, 48, 8), 1, 944);
        dueNone(leaving(3, 59, 49, 0), 1);
        dueNone(leaving(3, 59, 49, 8), 1);
        CeilingWorkbench x = new CeilingWorkbench();
        for (int task = 0; task < 4; task++) {
            Edges.addTask(x, 9 - task, 1, 1, 0, 9, 9, 9, 9, 9, 9);
        }
        Edges.addTask(x, 1, 60, 60, 0, 1);
        x.setServer(5, 9, 1);
        due(x, 0, 54);
        for (int task = 1; task < 5; task++) {
            dueNone(x, task);
        }
    }

    /** Task 1 gets so many units at the end of each period; the blocking counts among the units that it needs. */
    private static CeilingWorkbench leaving(int units, int period, int needed, int blocking) {
        CeilingWorkbench x = new CeilingWorkbench();
        int taken = period - units;
        Edges.addTask(x, 9, period, period, 0, 9, 9, 9, 9, 9, Math.min(taken - 45, 9));
        if (taken > 54) {
            x.setServer(8, taken - 54, period);
        }
        x.addTask(2, 60, 60, 0);
        for (int left = needed - blocking; left > 0; left -= 9) {
            x.addSegment(1, 0, Math.min(left, 9));
        }
        x.addTask(1, 60, 60, 0);
        x.addSegment(2, 0, blocking + 1);
        return x;
    }

    private static void withoutSegments() {
        CeilingWorkbench x = new CeilingWorkbench();
        x.addTask(5, 60, 60, 0);
        Edges.addTask(x, 9, 1, 1, 0, 9);
        Check.refused(x, "bound(0)", Edges.STATE, () -> x.bound(0));
        Check.refused(x, "witness(0)", Edges.STATE, () -> x.witness(0));
        x.addSegment(0, -1, 1);
        dueNone(x, 0);
        x.clear();
        x.addTask(5, 60, 60, 0);
        Check.refused(x, "bound(0) after clear", Edges.STATE, () -> x.bound(0));
        Check.refused(x, "witness(0) after clear", Edges.STATE, () -> x.witness(0));
        x.addSegment(0, -1, 1);
        due(x, 0, 1);
    }

    private static void witnessWithBlocking() {
        for (int length = 1; length <= 9; length++) {
            CeilingWorkbench x = sharing(6, 5, length);
            x.addSegment(0, -1, 1);
            // The unit of task 1 waits for the end of the blocking, too.
            Check.due("witness", x.witness(0), length - 1 + 1 + 1);
            Check.due("witness of the lowest", x.witness(2), 1 + 1 + length);
        }
    }

    private static void witnessAmongOthers() {
        CeilingWorkbench x = new CeilingWorkbench();
        Edges.addTask(x, 5, 60, 60, 60, 3);
        Check.due("alone, whatever its offset", x.witness(0), 3);
        Edges.addTask(x, 6, 4, 4, 60, 1);
        Check.due("a release at the time at which it ends does not count", x.witness(0), 4);
        Edges.addTask(x, 4, 1, 1, 0, 9);
        x.setServer(3, 9, 1);
        Check.due("lower ones do not count", x.witness(0), 4);
        x.setServer(7, 1, 60);
        // The jobs: 1 of the server, 3 of its own, and those of the times 0 and 4.
        Check.due("with a greater server", x.witness(0), 6);
        x.setServer(7, 1, 5);
        Check.due("with a server that is released again", x.witness(0), 7);
        x.addTask(9, 1, 1, 0);
        Check.due("a task without segments has no jobs", x.witness(0), 7);
    }

    private static void schedulable() {
        Check.due("no task", new CeilingWorkbench().isSchedulable(), true);
        CeilingWorkbench x = new CeilingWorkbench();
        x.addTask(5, 1, 1, 0);
        Check.due("a task without segments", x.isSchedulable(), true);
        x.addSegment(0, -1, 1);
        Check.due("a bound of 1 at the deadline 1", x.isSchedulable(), true);
        x.addTask(4, 60, 60, 0);
        Check.due("another one without segments", x.isSchedulable(), true);
        x.addSegment(1, -1, 1);
        Check.due("one without a bound", x.isSchedulable(), false);
        for (int deadline = 53; deadline <= 55; deadline++) {
            CeilingWorkbench w = Edges.one(60, deadline, 0, 9, 9, 9, 9, 9, 9);
            Check.due("a bound of 54 at " + deadline, w.isSchedulable(), deadline >= 54);
        }
        CeilingWorkbench y = Edges.withTasks(5, 0);
        Check.due("five tasks", y.isSchedulable(), true);
        y.run(100);
        Check.due("at any clock", y.isSchedulable(), true);
        CeilingWorkbench z = new CeilingWorkbench();
        for (int task = 0; task < 5; task++) {
            Edges.addTask(z, 9 - task, 60, task < 4 ? 60 : 9, 0, 2);
        }
        Check.due("the last one has a bound of 10 at 9", z.isSchedulable(), false);
    }

    private static void loads() {
        CeilingWorkbench x = new CeilingWorkbench();
        Check.due("no task", x.load(), 0.0);
        x.addTask(9, 1, 1, 0);
        Check.due("no segment", x.load(), 0.0);
        for (int k = 0; k < 6; k++) {
            x.addSegment(0, 0, 9);
        }
        Check.due("the greatest of a task", x.load(), 54.0);
        Edges.addTask(x, 8, 60, 60, 0, 1);
        Check.due("with the least of a task", x.load(), 54.0 + 1.0 / 60.0);
        x.setServer(1, 9, 1);
        Check.due("with the greatest of a server", x.load(), 54.0 + 1.0 / 60.0 + 9.0);
        x.setServer(1, 1, 60);
        Check.due("with the least of a server", x.load(), 54.0 + 1.0 / 60.0 + 1.0 / 60.0);
        x.clear();
        Check.due("after clear", x.load(), 0.0);
        x.setServer(1, 1, 3);
        Check.due("a server alone", x.load(), 1.0 / 3.0);
        // In another order, this sum has another last digit.
        CeilingWorkbench y = new CeilingWorkbench();
        Edges.addTask(y, 1, 10, 10, 0, 1);
        Edges.addTask(y, 2, 10, 10, 0, 2);
        Edges.addTask(y, 3, 10, 10, 0, 3);
        Check.due("in their order", y.load(), 0.1 + 0.2 + 0.3);
        Check.due("another order would show", 0.1 + 0.2 + 0.3 == 0.3 + 0.2 + 0.1, false);
    }

    private static void hyperbolicLoads() {
        CeilingWorkbench x = new CeilingWorkbench();
        Check.due("no task", x.hyperbolicLoad(), 1.0);
        x.addTask(9, 1, 1, 0);
        Check.due("no segment", x.hyperbolicLoad(), 1.0);
        for (int k = 0; k < 6; k++) {
            x.addSegment(0, 0, 9);
        }
        Check.due("the greatest of a task", x.hyperbolicLoad(), 55.0);
        Edges.addTask(x, 8, 60, 60, 0, 1);
        Check.due("with the least of a task", x.hyperbolicLoad(), 55.0 * (1.0 / 60.0 + 1));
        x.setServer(1, 9, 1);
        Check.due("with the greatest of a server", x.hyperbolicLoad(), 55.0 * (1.0 / 60.0 + 1) * 10.0);
        x.clear();
        Check.due("after clear", x.hyperbolicLoad(), 1.0);
        x.setServer(1, 1, 60);
        Check.due("a server alone", x.hyperbolicLoad(), 1.0 / 60.0 + 1);
        CeilingWorkbench y = new CeilingWorkbench();
        for (int task = 0; task < 5; task++) {
            Edges.addTask(y, task + 1, 1, 1, 0, 9, 9, 9, 9, 9, 9);
        }
        y.setServer(9, 9, 1);
        Check.due("the greatest of all", y.hyperbolicLoad(), 55.0 * 55.0 * 55.0 * 55.0 * 55.0 * 10.0);
        Check.due("the greatest load of all", y.load(), 279.0);
    }

    private static void due(CeilingWorkbench x, int task, int want) {
        Check.due("bound(" + task + ")", Check.answer(() -> x.bound(task)), want);
        Check.due("witness(" + task + ")", Check.answer(() -> x.witness(task)), want);
    }

    private static void dueNone(CeilingWorkbench x, int task) {
        Check.refused(x, "bound(" + task + ")", Edges.NO_SUCH, () -> x.bound(task));
        Check.refused(x, "witness(" + task + ")", Edges.NO_SUCH, () -> x.witness(task));
    }
}
