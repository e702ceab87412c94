/** Boundary cases of the tasks and of what is configured: "Tasks", "Ceilings" and the promises 1 to 4, 7, 11 and 12. */
final class TaskEdges {
    private TaskEdges() {
    }

    static void all() {
        tasks();
        Sentences.section("Ceilings");
        Sentences.holds("The ceiling of a resource is the greatest priority of a task that has a segment which needs"
            + " it, and 0 if there is none.", TaskEdges::ceilings);
        Sentences.section("Promise 1");
        Sentences.holds("Creates a workbench without tasks.", TaskEdges::newHasNoTasks);
        promiseAddTask();
        promiseAddSegment();
        promiseSetPolicy();
        promiseTaskCountAndTask();
    }

    private static void tasks() {
        Sentences.section("Tasks");
        Sentences.holds("There are at most 5 tasks, numbered from 0 in the order in which they were added.",
            TaskEdges::fiveTasks);
        Sentences.holds("A task has a priority from 1 to 9, where a greater number is more urgent, a period from 1 to"
            + " 60, a deadline from 1 to the period, an offset from 0 to 60, and a list of 0 to 6 segments.",
            TaskEdges::limitsOfATask);
        Sentences.holds("A segment has a length from 1 to 9 and needs one of the resources 0 to 3, or none.",
            TaskEdges::limitsOfASegment);
        Sentences.holds("The demand of a task is the sum of the lengths of its segments.", TaskEdges::demands);
        Sentences.holds("No two tasks have the same priority, and the server, if there is one, has a priority that no"
            + " task has.", TaskEdges::noPriorityTwice);
    }

    private static void promiseAddTask() {
        Sentences.section("Promise 3");
        Sentences.holds("Adds a task without segments.", TaskEdges::newTaskHasNoSegments);
        Sentences.holds("- priority: the priority, 1 to 9", TaskEdges::priorities);
        Sentences.holds("- period: the period, 1 to 60", TaskEdges::periods);
        Sentences.holds("- deadline: the deadline, 1 to the period", TaskEdges::deadlines);
        Sentences.holds("- offset: the offset, 0 to 60", TaskEdges::offsets);
        Sentences.holds("Returns the number of the task.", TaskEdges::fiveTasks);
        Sentences.holds("Throws IllegalArgumentException if a number is out of range", TaskEdges::taskOutOfRange);
        Sentences.holds("Throws IllegalStateException if the clock is not 0, or there are 5 tasks",
            TaskEdges::taskNotNow);
        Sentences.holds("Throws UnsupportedOperationException if another task or the server has this priority",
            TaskEdges::taskWithTakenPriority);
    }

    private static void promiseAddSegment() {
        Sentences.section("Promise 4");
        Sentences.holds("Adds a segment at the end of the list of a task.", TaskEdges::segmentsAreDoneInOrder);
        Sentences.holds("- resource: the resource, 0 to 3, or -1 for none", TaskEdges::resources);
        Sentences.holds("- length: the length, 1 to 9", TaskEdges::lengths);
        Sentences.holds("Returns the number of segments of the task then.", TaskEdges::sixSegments);
        Sentences.holds("Throws IndexOutOfBoundsException if there is no such task",
            () -> Edges.taskIndex("addSegment", 0, (x, task) -> x.addSegment(task, 3, 1)));
        Sentences.holds("Throws IllegalArgumentException if the resource or the length is out of range",
            TaskEdges::segmentOutOfRange);
        Sentences.holds("Throws IllegalStateException if the clock is not 0, or the task has 6 segments",
            TaskEdges::segmentNotNow);
    }

    private static void promiseSetPolicy() {
        Sentences.section("Promise 7");
        Sentences.holds("- policy: 0 for continue, 1 for abort, 2 for skip", TaskEdges::policiesByNumber);
        Sentences.holds("Returns the previous policy.", TaskEdges::previousPolicies);
        Sentences.holds("Throws IllegalArgumentException if the policy is out of range",
            () -> Edges.range("setPolicy", 0, 2, Edges.ARGUMENT, CeilingWorkbench::new, (x, p) -> x.setPolicy(p)));
    }

    private static void promiseTaskCountAndTask() {
        Sentences.section("Promise 11");
        Sentences.holds("Returns the number of tasks.", TaskEdges::countsOfTasks);
        Sentences.section("Promise 12");
        Sentences.holds("- what: 0 for the priority, 1 for the period, 2 for the deadline, 3 for the offset, 4 for the"
            + " number of segments, 5 for the demand", TaskEdges::properties);
        Sentences.holds("Throws IndexOutOfBoundsException if there is no such task",
            () -> Edges.taskIndex("task", 0, (x, task) -> x.task(task, 5)));
        Sentences.holds("Throws IllegalArgumentException if what is out of range",
            () -> Edges.range("task", 0, 5, Edges.ARGUMENT, () -> Edges.withTasks(5, 3), (x, what) -> x.task(4, what)));
    }

    private static void newHasNoTasks() {
        CeilingWorkbench x = new CeilingWorkbench();
        Check.due("taskCount", x.taskCount(), 0);
        Check.refused(x, "task(0, 0)", Edges.INDEX, () -> x.task(0, 0));
        Check.due("clear", x.clear(), 0);
    }

    private static void fiveTasks() {
        CeilingWorkbench x = new CeilingWorkbench();
        for (int task = 0; task < 5; task++) {
            Check.due("addTask", x.addTask(9 - task, 20 + task, 20, 0), task);
        }
        for (int task = 0; task < 5; task++) {
            Check.due("priority of " + task, x.task(task, 0), 9 - task);
            Check.due("period of " + task, x.task(task, 1), 20 + task);
        }
        Check.refused(x, "the 6th addTask", Edges.STATE, () -> x.addTask(1, 20, 20, 0));
        Check.refused(x, "task(5, 0)", Edges.INDEX, () -> x.task(5, 0));
        x.clear();
        Check.due("addTask after clear", x.addTask(1, 20, 20, 0), 0);
    }

    private static void limitsOfATask() {
        CeilingWorkbench x = new CeilingWorkbench();
        Check.due("the least of all", x.addTask(1, 1, 1, 0), 0);
        Check.due("the greatest of all", x.addTask(9, 60, 60, 60), 1);
        for (int low = 1; low < 9; low++) {
            CeilingWorkbench y = new CeilingWorkbench();
            Edges.addTask(y, low, 10, 10, 0, 1);
            Edges.addTask(y, low + 1, 10, 10, 0, 1);
            y.run(2);
            Check.due("the greater of " + low + " and the next runs first", Check.trace(y), "10");
        }
        priorities();
        periods();
        deadlines();
        offsets();
        sixSegments();
    }

    private static void priorities() {
        Edges.range("a priority", 1, 9, Edges.ARGUMENT, CeilingWorkbench::new, (x, p) -> x.addTask(p, 60, 60, 0));
    }

    private static void periods() {
        Edges.range("a period", 1, 60, Edges.ARGUMENT, CeilingWorkbench::new, (x, p) -> x.addTask(5, p, 1, 0));
    }

    private static void deadlines() {
        int[] periods = {1, 2, 59, 60};
        for (int period : periods) {
            Edges.range("a deadline in the period " + period, 1, period, Edges.ARGUMENT, CeilingWorkbench::new,
                (x, deadline) -> x.addTask(5, period, deadline, 0));
        }
    }

    private static void offsets() {
        Edges.range("an offset", 0, 60, Edges.ARGUMENT, CeilingWorkbench::new, (x, o) -> x.addTask(5, 1, 1, o));
    }

    private static void sixSegments() {
        CeilingWorkbench x = new CeilingWorkbench();
        x.addTask(5, 10, 10, 0);
        x.addTask(6, 10, 10, 0);
        Check.due("no segments", x.task(0, 4), 0);
        for (int k = 1; k <= 6; k++) {
            Check.due("addSegment", x.addSegment(0, -1, 1), k);
            Check.due("number of segments", x.task(0, 4), k);
        }
        Check.refused(x, "the 7th addSegment", Edges.STATE, () -> x.addSegment(0, -1, 1));
        Check.due("the other task has its own list", x.addSegment(1, -1, 1), 1);
    }

    private static void limitsOfASegment() {
        lengths();
        resources();
        CeilingWorkbench x = new CeilingWorkbench();
        x.addTask(5, 60, 60, 0);
        Check.due("the least length without a resource", x.addSegment(0, -1, 1), 1);
        Check.due("the greatest length and resource", x.addSegment(0, 3, 9), 2);
        x.run(10);
        Check.due("ten units", Check.trace(x), "0000000000");
        Check.due("finished", x.result(0, 5), 10);
    }

    private static CeilingWorkbench withEmptyTask() {
        CeilingWorkbench x = new CeilingWorkbench();
        x.addTask(5, 60, 60, 0);
        return x;
    }

    private static void lengths() {
        for (int resource = -1; resource <= 3; resource++) {
            int needed = resource;
            Edges.range("a length", 1, 9, Edges.ARGUMENT, TaskEdges::withEmptyTask,
                (x, length) -> x.addSegment(0, needed, length));
        }
    }

    private static void resources() {
        Edges.range("a resource", -1, 3, Edges.ARGUMENT, TaskEdges::withEmptyTask,
            (x, resource) -> x.addSegment(0, resource, 9));
        for (int resource = -1; resource <= 3; resource++) {
            CeilingWorkbench x = withEmptyTask();
            x.addSegment(0, resource, 2);
            x.run(1);
            for (int other = 0; other <= 3; other++) {
                Check.due("ceiling(" + other + ")", x.ceiling(other), other == resource ? 5 : 0);
                Check.due("holder(" + other + ")", x.holder(other), other == resource ? 0 : -1);
            }
        }
    }

    private static void demands() {
        CeilingWorkbench x = withEmptyTask();
        Check.due("without segments", x.task(0, 5), 0);
        for (int k = 1; k <= 6; k++) {
            x.addSegment(0, k % 5 - 1, 9);
            Check.due("the greatest demand of " + k, x.task(0, 5), 9 * k);
        }
        Check.answer(() -> x.addSegment(0, 0, 9));
        Check.due("a refused one adds nothing", x.task(0, 5), 54);
        CeilingWorkbench y = withEmptyTask();
        y.addSegment(0, 2, 1);
        Check.due("the least demand", y.task(0, 5), 1);
    }

    private static void noPriorityTwice() {
        for (int priority = 1; priority <= 9; priority++) {
            CeilingWorkbench x = new CeilingWorkbench();
            int taken = priority;
            Check.due("a task", x.addTask(taken, 10, 10, 0), 0);
            Check.refused(x, "a second task", Edges.TAKEN, () -> x.addTask(taken, 20, 20, 0));
            Check.refused(x, "the server", Edges.TAKEN, () -> x.setServer(taken, 1, 1));
            Check.due("the server with another one", x.setServer(taken % 9 + 1, 1, 1), false);
            x.clear();
            Check.due("free after clear", x.setServer(taken, 1, 1), false);
            Check.refused(x, "a task like the server", Edges.TAKEN, () -> x.addTask(taken, 20, 20, 0));
        }
    }

    private static void ceilings() {
        CeilingWorkbench x = new CeilingWorkbench();
        x.setServer(8, 1, 10);
        x.addTask(1, 60, 60, 0);
        x.addTask(9, 60, 60, 0);
        x.addTask(5, 60, 60, 0);
        x.addSegment(1, -1, 1);
        for (int resource = 0; resource <= 3; resource++) {
            Check.due("no segment needs it", x.ceiling(resource), 0);
            x.addSegment(0, resource, 1);
            Check.due("the least", x.ceiling(resource), 1);
            x.addSegment(1, resource, 1);
            Check.due("the greatest", x.ceiling(resource), 9);
            x.addSegment(2, resource, 1);
            Check.due("a lower one that comes later", x.ceiling(resource), 9);
        }
        x.clear();
        Check.due("no task any more", x.ceiling(3), 0);
    }

    private static void newTaskHasNoSegments() {
        CeilingWorkbench x = new CeilingWorkbench();
        for (int task = 0; task < 5; task++) {
            x.addTask(task + 1, 10, 10, 0);
            x.addSegment(task, 0, 9);
        }
        // The places of tasks that had segments are used again.
        x.clear();
        for (int task = 0; task < 5; task++) {
            x.addTask(task + 1, 10, 10, 0);
            Check.due("segments of " + task, x.task(task, 4), 0);
            Check.due("demand of " + task, x.task(task, 5), 0);
        }
        x.run(100);
        Check.due("no job", x.utilization(), 0.0);
    }

    private static void taskOutOfRange() {
        int[][] wrong = {{0, 60, 60, 60}, {10, 60, 60, 60}, {9, 0, 0, 60}, {9, 0, 1, 60}, {9, 61, 61, 60},
            {9, 61, 60, 60}, {9, 60, 0, 60}, {9, 60, 61, 60}, {9, 1, 2, 60}, {9, 60, 60, -1}, {9, 60, 60, 61},
            {-5, -1, -1, 0}, {Edges.LEAST, Edges.LEAST, Edges.LEAST, Edges.LEAST},
            {Edges.GREATEST, Edges.GREATEST, Edges.GREATEST, Edges.GREATEST}};
        CeilingWorkbench x = new CeilingWorkbench();
        for (int[] a : wrong) {
            Check.refused(x, "addTask", Edges.ARGUMENT, () -> x.addTask(a[0], a[1], a[2], a[3]));
        }
        Check.due("none of them was added", x.addTask(9, 60, 60, 60), 0);
    }

    private static void taskNotNow() {
        CeilingWorkbench x = new CeilingWorkbench();
        Check.due("at clock 0", x.addTask(1, 10, 10, 0), 0);
        int[] steps = {1, 99, 100, 100, 100};
        for (int step : steps) {
            x.run(step);
            Check.refused(x, "at clock " + x.clock(), Edges.STATE, () -> x.addTask(9, 10, 10, 0));
        }
        x.rewind();
        for (int task = 1; task < 5; task++) {
            Check.due("at clock 0 again", x.addTask(task + 1, 10, 10, 0), task);
        }
        Check.refused(x, "with 5 tasks", Edges.STATE, () -> x.addTask(9, 10, 10, 0));
    }

    private static void taskWithTakenPriority() {
        CeilingWorkbench x = new CeilingWorkbench();
        for (int task = 0; task < 4; task++) {
            x.addTask(task + 1, 10, 10, 0);
        }
        x.setServer(9, 1, 1);
        for (int task = 0; task < 4; task++) {
            int priority = task + 1;
            Check.refused(x, "the priority of task " + task, Edges.TAKEN, () -> x.addTask(priority, 10, 10, 0));
        }
        Check.refused(x, "the priority of the server", Edges.TAKEN, () -> x.addTask(9, 10, 10, 0));
        x.setServer(8, 1, 1);
        Check.refused(x, "the priority of the new server", Edges.TAKEN, () -> x.addTask(8, 10, 10, 0));
        Check.due("the priority of the old server", x.addTask(9, 10, 10, 0), 4);
    }

    private static void segmentsAreDoneInOrder() {
        CeilingWorkbench x = withEmptyTask();
        int[] resources = {3, -1, 0, 2, 0, 1};
        for (int resource : resources) {
            x.addSegment(0, resource, 2);
        }
        for (int k = 0; k < 6; k++) {
            x.run(1);
            for (int resource = 0; resource <= 3; resource++) {
                Check.due("segment " + k + ": holder(" + resource + ")", x.holder(resource),
                    resource == resources[k] ? 0 : -1);
            }
            x.run(1);
        }
        Check.due("finished", x.result(0, 5), 12);
    }

    private static void segmentOutOfRange() {
        CeilingWorkbench x = withEmptyTask();
        int[][] wrong = {{-2, 1}, {4, 1}, {-2, 9}, {4, 9}, {-1, 0}, {-1, 10}, {0, 0}, {3, 10}, {-2, 0}, {4, 10},
            {Edges.LEAST, 1}, {Edges.GREATEST, 1}, {0, Edges.LEAST}, {0, Edges.GREATEST}};
        for (int[] a : wrong) {
            Check.refused(x, "addSegment", Edges.ARGUMENT, () -> x.addSegment(0, a[0], a[1]));
        }
        Check.due("none of them was added", x.addSegment(0, 0, 1), 1);
    }

    private static void segmentNotNow() {
        CeilingWorkbench x = withEmptyTask();
        Check.due("at clock 0", x.addSegment(0, 0, 1), 1);
        int[] steps = {1, 99, 100, 100, 100};
        for (int step : steps) {
            x.run(step);
            Check.refused(x, "at clock " + x.clock(), Edges.STATE, () -> x.addSegment(0, 0, 1));
        }
        x.rewind();
        for (int k = 2; k <= 6; k++) {
            Check.due("at clock 0 again", x.addSegment(0, 0, 1), k);
        }
        Check.refused(x, "with 6 segments", Edges.STATE, () -> x.addSegment(0, 0, 1));
    }

    private static void policiesByNumber() {
        String[] due = {"1 1 0 0 0 3", "0 1 1 0 0 0", "1 1 0 1 0 3"};
        for (int policy = 0; policy <= 2; policy++) {
            CeilingWorkbench x = Edges.one(4, 2, 0, 3);
            x.setPolicy(policy);
            x.run(5);
            Check.due("results under " + policy, Check.results(x, 0), due[policy]);
            Check.due("pending under " + policy, x.pending(0), policy == 2 ? 0 : 1);
        }
    }

    private static void previousPolicies() {
        CeilingWorkbench x = new CeilingWorkbench();
        int before = 0;
        int[] policies = {0, 1, 1, 2, 2, 0, 2, 1, 0};
        for (int policy : policies) {
            Check.due("setPolicy(" + policy + ")", x.setPolicy(policy), before);
            Check.answer(() -> x.setPolicy(3));
            before = policy;
        }
    }

    private static void countsOfTasks() {
        CeilingWorkbench x = new CeilingWorkbench();
        for (int count = 0; count <= 5; count++) {
            Check.due("taskCount", x.taskCount(), count);
            Check.answer(() -> x.addTask(x.taskCount() + 1, 10, 10, 0));
        }
        Check.due("taskCount after the 6th", x.taskCount(), 5);
        x.run(1);
        x.rewind();
        Check.due("taskCount after rewind", x.taskCount(), 5);
        x.clear();
        Check.due("taskCount after clear", x.taskCount(), 0);
    }

    private static void properties() {
        CeilingWorkbench x = new CeilingWorkbench();
        x.addTask(1, 1, 1, 0);
        x.addTask(9, 60, 59, 60);
        for (int k = 0; k < 6; k++) {
            x.addSegment(1, 0, 9);
        }
        int[][] due = {{1, 1, 1, 0, 0, 0}, {9, 60, 59, 60, 6, 54}};
        for (int task = 0; task < 2; task++) {
            for (int what = 0; what <= 5; what++) {
                Check.due("task(" + task + ", " + what + ")", x.task(task, what), due[task][what]);
            }
        }
    }
}
