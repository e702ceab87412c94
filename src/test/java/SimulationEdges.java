/** Boundary cases of the simulation: "Jobs", "Simulation" and the promises 20 to 28 and 32. */
final class SimulationEdges {
    private SimulationEdges() {
    }

    static void all() {
        jobs();
        clockAndReleases();
        deadlines();
        choiceAndEnd();
        promisesOfRunAndClock();
        promisesOfJobs();
        promisesOfCounts();
    }

    private static void jobs() {
        Sentences.section("Jobs");
        Sentences.holds("A task with at least one segment releases a job at each of the times offset, offset + period,"
            + " offset + 2 * period, and so on, unless it skips the release.", SimulationEdges::releases);
        Sentences.holds("The job has to do the segments of the task in their order, and it is due at the time of its"
            + " release plus the deadline.", SimulationEdges::dueTimes);
        Sentences.holds("The unfinished jobs of a task are done in the order of their releases; only the first one of"
            + " them can run.", SimulationEdges::jobsInOrder);
        Sentences.holds("A job holds the resource of a segment from the beginning of the first unit of this segment"
            + " that it runs to the end of the last one.", SimulationEdges::heldTimes);
        Sentences.holds("Its active priority is the priority of its task, or the ceiling of the resource that it"
            + " holds, whichever is greater.", SimulationEdges::activePriorities);
    }

    private static void clockAndReleases() {
        Sentences.section("Simulation");
        Sentences.holds("Time is counted in units; the clock is 0 at first, and at most 400.",
            SimulationEdges::clockFromZeroTo400);
        Sentences.holds("The replenishments that are planned for t take place, and the requests of time t arrive.",
            SimulationEdges::replenishmentAndArrivalAtOnce);
        Sentences.holds("All tasks, in the order of their numbers, release their jobs of time t.",
            SimulationEdges::allRelease);
        Sentences.holds("A task that has to skip a release skips this one instead.", SimulationEdges::skippedRelease);
    }

    private static void deadlines() {
        Sentences.holds("For all tasks, in the order of their numbers, and their unfinished jobs that are due at t,"
            + " the deadline is missed.", SimulationEdges::missedDeadlines);
        Sentences.holds("Under the policy 0 (continue), nothing else happens.", SimulationEdges::continued);
        Sentences.holds("Under the policy 1 (abort), the job is removed, and holds nothing any more.",
            SimulationEdges::aborted);
        Sentences.holds("Under the policy 2 (skip), the task has to skip its next release; further misses until then"
            + " change nothing about that.", SimulationEdges::skippedOnceForEachMiss);
    }

    private static void choiceAndEnd() {
        Sentences.holds("Of the first unfinished jobs of all tasks, and the server if it is ready, the one with the"
            + " greatest active priority runs for this unit, where the server has its priority.",
            SimulationEdges::greatestRuns);
        Sentences.holds("If a job that holds a resource has the same active priority as another one, or as the server,"
            + " the job that holds a resource runs.", SimulationEdges::holderRuns);
        Sentences.holds("If there is none, the processor is idle.", SimulationEdges::idle);
        Sentences.holds("The clock increases by 1.", SimulationEdges::clockByOne);
        Sentences.holds("A job that has done all its segments is finished; its response is the clock minus the time of"
            + " its release.", SimulationEdges::responses);
        Sentences.holds("The same holds for a request, with the time of its arrival.",
            SimulationEdges::responsesOfRequests);
        Sentences.holds("A job that is the first unfinished one of its task, has run at least one unit, and is not"
            + " finished, is preempted in a unit if it ran in the unit before and something else runs in this one.",
            SimulationEdges::preemptions);
    }

    private static void promisesOfRunAndClock() {
        Sentences.section("Promise 20");
        Sentences.holds("- units: the number of units, 1 to 100", SimulationEdges::units);
        Sentences.holds("Returns the number of jobs that are finished in these units.", SimulationEdges::finishedJobs);
        Sentences.holds("Throws IllegalArgumentException if the number is out of range", SimulationEdges::units);
        Sentences.holds("Throws IllegalStateException if the clock would become greater than 400",
            SimulationEdges::beyond400);
        Sentences.section("Promise 22");
        Sentences.holds("Returns the clock.", SimulationEdges::clockFromZeroTo400);
        Sentences.section("Promise 23");
        Sentences.holds("Returns the number of the task, 9 for the server, -1 if the processor was idle.",
            SimulationEdges::whatRan);
        Sentences.holds("Throws IndexOutOfBoundsException if the time is negative, or not less than the clock",
            SimulationEdges::noUnit);
    }

    private static void promisesOfJobs() {
        Sentences.section("Promise 24");
        Sentences.holds("Returns the number of unfinished jobs of a task that have been released.",
            SimulationEdges::pendingJobs);
        Sentences.holds("Throws IndexOutOfBoundsException if there is no such task",
            () -> Edges.taskIndex("pending", 1, (x, task) -> x.pending(task)));
        Sentences.section("Promise 25");
        Sentences.holds("Returns the active priority of the first unfinished job of a task.",
            SimulationEdges::activePriorities);
        Sentences.holds("Throws IndexOutOfBoundsException if there is no such task",
            () -> Edges.taskIndex("activePriority", 1, (x, task) -> x.activePriority(task)));
        Sentences.holds("Throws NoSuchElementException if there is no unfinished job",
            SimulationEdges::noUnfinishedJob);
        Sentences.section("Promise 26");
        Sentences.holds("Returns the task, or -1 if no job holds it.", SimulationEdges::heldTimes);
        Sentences.holds("Throws IndexOutOfBoundsException if there is no such resource",
            () -> Edges.resourceIndex("holder", (x, resource) -> x.holder(resource)));
    }

    private static void promisesOfCounts() {
        Sentences.section("Promise 27");
        Sentences.holds("- what: 0 for the jobs that are finished, 1 for the deadlines that were missed, 2 for the"
            + " jobs that were removed, 3 for the releases that were skipped, 4 for the preemptions, 5 for the greatest"
            + " response, which is 0 if no job is finished", SimulationEdges::counts);
        Sentences.holds("Throws IndexOutOfBoundsException if there is no such task",
            () -> Edges.taskIndex("result", 1, (x, task) -> x.result(task, 5)));
        Sentences.holds("Throws IllegalArgumentException if what is out of range",
            () -> Edges.range("result", 0, 5, Edges.ARGUMENT, () -> Edges.withTasks(5, 3),
                (x, what) -> x.result(4, what)));
        Sentences.section("Promise 28");
        Sentences.holds("Returns the average response of the finished jobs of a task: the sum of the responses divided"
            + " by their number, both converted to float.", SimulationEdges::averages);
        Sentences.holds("Throws IndexOutOfBoundsException if there is no such task",
            () -> Edges.taskIndex("averageResponse", 20, (x, task) -> x.averageResponse(task)));
        Sentences.holds("Throws ArithmeticException if no job of the task is finished",
            SimulationEdges::noFinishedJob);
        Sentences.section("Promise 32");
        Sentences.holds("Returns the share of the units in which the processor was not idle: their number divided by"
            + " the clock, both converted to double.", SimulationEdges::shares);
        Sentences.holds("Throws ArithmeticException if the clock is 0", SimulationEdges::noShare);
    }

    private static void releases() {
        CeilingWorkbench x = new CeilingWorkbench();
        x.addTask(9, 1, 1, 0);
        Check.due("no segment, no job", Edges.runAll(x, 400), 0);
        Check.due("nothing ran", x.utilization(), 0.0);
        Check.due("a job in each unit", Edges.runAll(Edges.one(1, 1, 0, 1), 400), 400);
        CeilingWorkbench y = Edges.one(60, 60, 60, 1);
        Edges.runAll(y, 400);
        Check.due("the greatest offset and period", placesOf(y), "60 120 180 240 300 360 ");
        CeilingWorkbench z = Edges.one(60, 1, 39, 1);
        Edges.runAll(z, 400);
        Check.due("a release in the last unit", placesOf(z), "39 99 159 219 279 339 399 ");
        CeilingWorkbench w = Edges.one(60, 1, 40, 1);
        Edges.runAll(w, 400);
        Check.due("none at 400", placesOf(w), "40 100 160 220 280 340 ");
        Check.due("nothing waits", w.pending(0), 0);
    }

    /** The times of the units in which the processor was not idle. */
    private static String placesOf(CeilingWorkbench x) {
        StringBuilder places = new StringBuilder();
        for (int time = 0; time < x.clock(); time++) {
            places.append(x.ranAt(time) == -1 ? "" : time + " ");
        }
        return places.toString();
    }

    private static void dueTimes() {
        CeilingWorkbench x = Edges.one(2, 1, 0, 1);
        x.run(10);
        Check.due("done just at the least deadline", Check.results(x, 0), "5 0 0 0 0 1");
        CeilingWorkbench y = Edges.one(2, 1, 0, 2);
        y.run(1);
        Check.due("not missed before its unit", y.result(0, 1), 0);
        y.run(1);
        Check.due("missed at 1", Check.results(y, 0), "1 1 0 0 0 2");
        CeilingWorkbench z = new CeilingWorkbench();
        Edges.addTask(z, 1, 60, 60, 60, 9, 9, 9, 9, 9, 9);
        Edges.addTask(z, 9, 60, 60, 60, 6);
        Edges.runAll(z, 121);
        Check.due("done just at the greatest deadline", Check.results(z, 0), "1 0 0 0 0 60");
        z.rewind();
        z.addSegment(1, -1, 1);
        Edges.runAll(z, 120);
        Check.due("one unit more: not yet missed at 120", z.result(0, 1), 0);
        z.run(1);
        Check.due("one unit more: missed at 120", z.result(0, 1), 1);
    }

    private static void jobsInOrder() {
        CeilingWorkbench x = Edges.one(1, 1, 0, 2);
        Check.due("run", x.run(6), 3);
        // Released at 0, 1 and 2, finished at 2, 4 and 6.
        Check.due("results", Check.results(x, 0), "3 5 0 0 0 4");
        Check.due("average", x.averageResponse(0), 3f);
        Check.due("pending", x.pending(0), 3);
        CeilingWorkbench y = new CeilingWorkbench();
        y.addTask(5, 1, 1, 0);
        y.addSegment(0, 0, 2);
        y.run(3);
        Check.due("the second job holds it", y.holder(0), 0);
        y.run(1);
        Check.due("no third one holds it at once", y.holder(0), -1);
    }

    private static void heldTimes() {
        for (int length = 1; length <= 9; length++) {
            CeilingWorkbench x = new CeilingWorkbench();
            x.addTask(5, 60, 60, 1);
            x.addSegment(0, 3, length);
            x.addSegment(0, -1, 1);
            Check.due("before the release", x.holder(3), -1);
            x.run(1);
            Check.due("before its first unit", x.holder(3), -1);
            for (int done = 1; done <= length; done++) {
                x.run(1);
                Check.due("after " + done + " of " + length, x.holder(3), done < length ? 0 : -1);
            }
        }
        CeilingWorkbench y = new CeilingWorkbench();
        y.addTask(5, 60, 60, 0);
        y.addSegment(0, 0, 3);
        Edges.addTask(y, 9, 60, 60, 1, 9);
        y.run(10);
        Check.due("held while another one runs", y.holder(0), 0);
        y.run(1);
        Check.due("the trace", Check.trace(y), "01111111110");
        Check.due("still one unit to do", y.holder(0), 0);
    }

    private static void activePriorities() {
        CeilingWorkbench x = new CeilingWorkbench();
        x.addTask(1, 60, 60, 0);
        x.addSegment(0, 0, 2);
        x.addSegment(0, 1, 2);
        x.addTask(9, 60, 60, 60);
        x.addSegment(1, 1, 2);
        int[] due = {1, 1, 9};
        for (int clock = 1; clock <= 3; clock++) {
            x.run(1);
            Check.due("at clock " + clock, x.activePriority(0), due[clock - 1]);
        }
        Edges.runAll(x, 57);
        x.run(1);
        Check.due("the greatest one by itself", x.activePriority(1), 9);
        CeilingWorkbench y = Edges.withTasks(5, 1);
        for (int task = 0; task < 5; task++) {
            Check.due("that of the task", y.activePriority(task), task + 1);
        }
    }

    private static void clockFromZeroTo400() {
        CeilingWorkbench x = new CeilingWorkbench();
        Check.due("at first", x.clock(), 0);
        for (int k = 1; k <= 4; k++) {
            x.run(100);
            Check.due("clock", x.clock(), 100 * k);
        }
        Check.refused(x, "run(1) at 400", Edges.STATE, () -> x.run(1));
        Check.due("clock", x.clock(), 400);
        Check.due("rewind", x.rewind(), 400);
        Check.due("after rewind", x.clock(), 0);
    }

    private static void replenishmentAndArrivalAtOnce() {
        CeilingWorkbench x = Edges.withServer(5, 1, 4);
        x.request(0, 1);
        x.request(4, 1);
        x.run(4);
        Edges.dueServer(x, 0, 4);
        x.run(1);
        Check.due("served at once", x.requestResponse(1), 1);
        Check.due("trace", Check.trace(x), "S...S");
        Edges.dueServer(x, 0, 8);
        CeilingWorkbench y = Edges.withServer(5, 1, 1);
        y.request(300, 9);
        Edges.runAll(y, 309);
        Check.due("a replenishment in each unit", y.requestResponse(0), 9);
    }

    private static void allRelease() {
        CeilingWorkbench x = Edges.withTasks(5, 1);
        for (int task = 0; task < 5; task++) {
            Check.due("pending(" + task + ")", x.pending(task), 1);
        }
        CeilingWorkbench y = new CeilingWorkbench();
        for (int task = 0; task < 5; task++) {
            Edges.addTask(y, task + 1, 60, 60, 60, 1);
        }
        y.run(60);
        Check.due("none before", y.pending(0) + y.pending(4), 0);
        y.run(1);
        Check.due("the most urgent is finished", y.pending(4), 0);
        Check.due("the others wait", y.pending(0) + y.pending(1) + y.pending(2) + y.pending(3), 4);
    }

    private static void skippedRelease() {
        CeilingWorkbench x = Edges.one(4, 2, 0, 3);
        x.setPolicy(2);
        x.run(4);
        Check.due("not before the release", x.result(0, 3), 0);
        x.run(1);
        Check.due("skipped at 4", x.result(0, 3), 1);
        Check.due("no job of 4", x.pending(0), 0);
        x.run(4);
        Check.due("the job of 8", x.pending(0), 1);
        Check.due("trace", Check.trace(x), "000.....0");
        CeilingWorkbench y = Edges.one(60, 59, 40, 9, 9, 9, 9, 9, 9);
        Edges.addTask(y, 9, 60, 60, 40, 6);
        y.setPolicy(2);
        Edges.runAll(y, 400);
        // Missed at 99, 219 and 339, skipped at 100, 220 and 340.
        Check.due("results", Check.results(y, 0), "3 3 0 3 0 60");
    }

    private static void missedDeadlines() {
        CeilingWorkbench x = new CeilingWorkbench();
        for (int task = 0; task < 5; task++) {
            Edges.addTask(x, task + 1, 60, 9, 0, 2);
        }
        x.run(9);
        for (int task = 0; task < 5; task++) {
            Check.due("before", x.result(task, 1), 0);
        }
        x.run(1);
        for (int task = 0; task < 5; task++) {
            // The lowest one would be finished at 10, a unit too late.
            Check.due("missed by " + task, x.result(task, 1), task == 0 ? 1 : 0);
        }
        CeilingWorkbench y = Edges.one(1, 1, 0, 9);
        Edges.runAll(y, 400);
        Check.due("those due at 1 to 399", y.result(0, 1), 399);
    }

    private static void continued() {
        CeilingWorkbench x = Edges.one(60, 1, 0, 9);
        x.run(9);
        Check.due("missed once, and finished", Check.results(x, 0), "1 1 0 0 0 9");
        x.run(52);
        Check.due("the next release is not skipped", x.pending(0), 1);
    }

    private static void aborted() {
        CeilingWorkbench x = new CeilingWorkbench();
        x.addTask(5, 60, 1, 0);
        x.addSegment(0, 0, 2);
        x.setPolicy(1);
        x.run(1);
        Check.due("before", x.holder(0), 0);
        Check.due("before", x.pending(0), 1);
        x.run(1);
        Check.due("holds nothing", x.holder(0), -1);
        Check.due("removed", x.pending(0), 0);
        Check.due("results", Check.results(x, 0), "0 1 1 0 0 0");
        Check.due("idle then", Check.trace(x), "0.");
        x.run(59);
        Check.due("a new job begins with its first unit", x.holder(0), 0);
        CeilingWorkbench y = Edges.one(1, 1, 0, 2);
        y.setPolicy(1);
        Edges.runAll(y, 400);
        Check.due("every job but the last", Check.results(y, 0), "0 399 399 0 0 0");
        removedBetweenOthers();
    }

    /** Under another policy older jobs have stayed, and a newer one is released in the unit of the removal. */
    private static void removedBetweenOthers() {
        CeilingWorkbench x = Edges.one(2, 2, 0, 9);
        x.run(6);
        x.setPolicy(1);
        x.run(1);
        Check.due("those of 0, 2 and 6 wait", x.pending(0), 3);
        Check.due("the one of 4 is removed", Check.results(x, 0), "0 3 1 0 0 0");
        x.setPolicy(0);
        // The three are finished at 9, 18 and 27.
        Check.due("run", x.run(20), 3);
        Check.due("the greatest response", x.result(0, 5), 21);
        Check.due("the average response", x.averageResponse(0), (9f + 16f + 21f) / 3f);
        CeilingWorkbench y = new CeilingWorkbench();
        Edges.addTask(y, 1, 1, 1, 0, 1);
        Edges.addTask(y, 9, 1, 1, 0, 1);
        Edges.runAll(y, 399);
        y.setPolicy(1);
        y.run(1);
        Check.due("one of as many as there can be", y.pending(0), 399);
    }

    private static void skippedOnceForEachMiss() {
        CeilingWorkbench x = Edges.one(2, 2, 0, 3);
        x.setPolicy(2);
        x.run(12);
        // Released at 0, 2, 8 and 10; due at 2, 4 and 10 while unfinished; so skipped at 4 and 6.
        Check.due("trace", Check.trace(x), "000000..0000");
        Check.due("results", Check.results(x, 0), "3 3 0 2 0 4");
        CeilingWorkbench y = Edges.one(1, 1, 0, 9);
        y.run(5);
        y.setPolicy(2);
        y.run(1);
        y.setPolicy(0);
        y.run(3);
        // No job of the time 6 can be missed at 7.
        Check.due("one miss under skip, one release skipped", Check.results(y, 0), "1 7 0 1 0 9");
        Check.due("pending", y.pending(0), 7);
    }

    private static void greatestRuns() {
        for (int priority = 1; priority <= 9; priority++) {
            if (priority == 5) {
                continue;
            }
            CeilingWorkbench x = Edges.one(60, 60, 0, 1);
            x.setServer(priority, 1, 60);
            x.request(0, 1);
            x.run(2);
            Check.due("a server of " + priority, Check.trace(x), priority > 5 ? "S0" : "0S");
        }
        CeilingWorkbench y = Edges.withTasks(5, 10);
        Check.due("five tasks", Check.trace(y), "4433221100");
    }

    private static void holderRuns() {
        // Task 0 holds a resource of the ceiling 6 when the others become ready at 1.
        Check.due("against its equal", traceOfHolder(6, 9, false), "00011.");
        Check.due("against a server below the ceiling", traceOfHolder(6, 5, true), "00011S");
        Check.due("against a server above the ceiling", traceOfHolder(6, 7, true), "0S0011");
        Check.due("its equal has a lower number", traceOfLaterHolder(), "11100.");
    }

    private static String traceOfHolder(int ceiling, int serverPriority, boolean isAsked) {
        CeilingWorkbench x = new CeilingWorkbench();
        x.addTask(1, 60, 60, 0);
        x.addSegment(0, 0, 3);
        x.addTask(ceiling, 60, 60, 1);
        x.addSegment(1, 0, 2);
        x.setServer(serverPriority, 1, 60);
        if (isAsked) {
            x.request(1, 1);
        }
        x.run(6);
        return Check.trace(x);
    }

    private static String traceOfLaterHolder() {
        CeilingWorkbench x = new CeilingWorkbench();
        x.addTask(6, 60, 60, 1);
        x.addSegment(0, 0, 2);
        x.addTask(1, 60, 60, 0);
        x.addSegment(1, 0, 3);
        x.run(6);
        return Check.trace(x);
    }

    private static void idle() {
        CeilingWorkbench x = new CeilingWorkbench();
        x.run(1);
        Check.due("no task at all", x.ranAt(0), -1);
        CeilingWorkbench y = Edges.one(60, 60, 1, 1);
        y.setServer(9, 1, 60);
        y.request(3, 2);
        y.run(6);
        Check.due("between", Check.trace(y), ".0.S..");
    }

    private static void clockByOne() {
        CeilingWorkbench x = Check.busyBench(1);
        for (int clock = 0; clock < 400; clock++) {
            Check.due("clock", x.clock(), clock);
            x.run(1);
        }
        Check.due("clock", x.clock(), 400);
    }

    private static void responses() {
        CeilingWorkbench x = Edges.one(60, 60, 60, 1);
        x.run(61);
        Check.due("the least response", x.result(0, 5), 1);
        CeilingWorkbench y = new CeilingWorkbench();
        Edges.addTask(y, 1, 60, 60, 0, 1);
        Edges.addTask(y, 9, 9, 9, 0, 8);
        y.addSegment(1, -1, 1);
        Edges.runAll(y, 400);
        Check.due("never finished", Check.results(y, 0), "0 6 0 0 0 0");
        CeilingWorkbench z = new CeilingWorkbench();
        Edges.addTask(z, 1, 60, 60, 0, 8);
        Edges.addTask(z, 9, 50, 50, 0, 9, 9, 9, 9, 9, 4);
        Edges.runAll(z, 399);
        Check.due("before the last unit", z.result(0, 0), 0);
        Check.due("in the last unit", z.run(1), 1);
        Check.due("the greatest response", z.result(0, 5), 400);
    }

    private static void responsesOfRequests() {
        CeilingWorkbench x = Edges.withServer(1, 9, 60);
        Edges.addTask(x, 9, 60, 60, 5, 9);
        x.request(4, 1);
        x.request(5, 1);
        x.request(300, 1);
        Edges.runAll(x, 400);
        int[] due = {1, 10, 1};
        for (int request = 0; request < 3; request++) {
            Check.due("requestResponse(" + request + ")", x.requestResponse(request), due[request]);
        }
    }

    private static void preemptions() {
        Check.due("in its first unit it is not yet running", preempted(0, 1), 0);
        Check.due("after its first unit", preempted(1, 1), 1);
        Check.due("after its last unit but one", preempted(8, 1), 1);
        Check.due("after its last unit", preempted(9, 1), 0);
        Check.due("once for several units", preempted(4, 9), 1);
        CeilingWorkbench x = new CeilingWorkbench();
        Edges.addTask(x, 1, 60, 60, 0, 9);
        Edges.addTask(x, 9, 2, 2, 1, 1);
        x.run(18);
        Check.due("every other unit", Check.trace(x), "010101010101010101");
        Check.due("as often as it is left", x.result(0, 4), 8);
        CeilingWorkbench y = Edges.one(60, 60, 0, 9);
        y.setServer(9, 1, 60);
        y.request(5, 1);
        y.run(60);
        Check.due("by the server", y.result(0, 4), 1);
    }

    /** How often a job of 9 units is preempted by another one that is released at an offset. */
    private static int preempted(int offset, int length) {
        CeilingWorkbench x = new CeilingWorkbench();
        Edges.addTask(x, 1, 60, 60, 0, 9);
        Edges.addTask(x, 9, 60, 60, offset, length);
        x.run(60);
        Check.due("the other one is never preempted", x.result(1, 4), 0);
        return x.result(0, 4);
    }

    private static void units() {
        Edges.range("run", 1, 100, Edges.ARGUMENT, () -> Check.busyBench(0), (x, units) -> x.run(units));
        for (int units = 1; units <= 100; units++) {
            CeilingWorkbench x = new CeilingWorkbench();
            x.run(units);
            Check.due("clock after run(" + units + ")", x.clock(), units);
        }
    }

    private static void finishedJobs() {
        CeilingWorkbench x = Edges.one(1, 1, 0, 1);
        Check.due("run(1)", x.run(1), 1);
        Check.due("run(100)", x.run(100), 100);
        CeilingWorkbench y = Edges.one(60, 60, 0, 2);
        Check.due("half a job", y.run(1), 0);
        Check.due("the other half", y.run(1), 1);
        Check.due("no job", y.run(58), 0);
        CeilingWorkbench z = Edges.withServer(5, 9, 1);
        z.request(0, 1);
        Check.due("a request is no job", z.run(1), 0);
        Check.due("none at all", new CeilingWorkbench().run(100), 0);
    }

    private static void beyond400() {
        for (int units = 1; units <= 100; units++) {
            int asked = units;
            CeilingWorkbench x = Edges.at(400 - units + 1);
            Check.due("clock", x.clock(), 401 - units);
            Check.due("run to 401", Check.answer(() -> x.run(asked)), "IllegalStateException");
            Check.due("no unit was made", x.clock(), 401 - units);
            CeilingWorkbench y = Edges.at(400 - units);
            Check.due("run to 400", y.run(units), 0);
            Check.due("clock", y.clock(), 400);
        }
        CeilingWorkbench z = Check.busyBench(2);
        Edges.runAll(z, 301);
        Check.refused(z, "run(100) at 301", Edges.STATE, () -> z.run(100));
        z.run(99);
        Check.refused(z, "run(1) at 400", Edges.STATE, () -> z.run(1));
        Check.refused(z, "run(100) at 400", Edges.STATE, () -> z.run(100));
    }

    private static void whatRan() {
        CeilingWorkbench x = Edges.withTasks(5, 0);
        x.setServer(9, 9, 60);
        x.request(0, 2);
        x.run(13);
        int[] due = {9, 9, 4, 4, 3, 3, 2, 2, 1, 1, 0, 0, -1};
        for (int time = 0; time < 13; time++) {
            Check.due("ranAt(" + time + ")", x.ranAt(time), due[time]);
        }
    }

    private static void noUnit() {
        int[] clocks = {0, 1, 2, 399, 400};
        for (int clock : clocks) {
            Edges.range("ranAt at clock " + clock, 0, clock - 1, Edges.INDEX, () -> Edges.at(clock),
                (x, time) -> x.ranAt(time));
        }
        CeilingWorkbench x = Edges.at(400);
        x.rewind();
        Check.refused(x, "ranAt(0) after rewind", Edges.INDEX, () -> x.ranAt(0));
        x.run(1);
        Check.due("ranAt(0)", x.ranAt(0), -1);
        Check.refused(x, "ranAt(1) of an earlier run", Edges.INDEX, () -> x.ranAt(1));
        x.clear();
        Check.refused(x, "ranAt(0) after clear", Edges.INDEX, () -> x.ranAt(0));
    }

    private static void pendingJobs() {
        CeilingWorkbench x = Edges.one(60, 60, 1, 2);
        int[] due = {0, 0, 1, 0};
        for (int clock = 0; clock < 4; clock++) {
            Check.due("at clock " + clock, x.pending(0), due[clock]);
            x.run(1);
        }
        CeilingWorkbench y = new CeilingWorkbench();
        Edges.addTask(y, 1, 1, 1, 0, 1);
        Edges.addTask(y, 9, 1, 1, 0, 1);
        Edges.runAll(y, 400);
        Check.due("as many as there can be", y.pending(0), 400);
        Check.due("none", y.pending(1), 0);
        y.rewind();
        Check.due("none after rewind", y.pending(0), 0);
    }

    private static void noUnfinishedJob() {
        CeilingWorkbench x = Edges.one(60, 60, 1, 2);
        x.addTask(9, 1, 1, 0);
        for (int clock = 0; clock < 4; clock++) {
            if (clock == 2) {
                Check.due("one at clock 2", x.activePriority(0), 5);
            } else {
                Check.refused(x, "at clock " + clock, Edges.NO_SUCH, () -> x.activePriority(0));
            }
            Check.refused(x, "without segments", Edges.NO_SUCH, () -> x.activePriority(1));
            x.run(1);
        }
    }

    private static void counts() {
        CeilingWorkbench x = Edges.one(4, 2, 0, 3);
        Check.due("at first", Check.results(x, 0), "0 0 0 0 0 0");
        x.run(2);
        Check.due("no job finished", Check.results(x, 0), "0 0 0 0 0 0");
        x.run(1);
        Check.due("one finished, one missed", Check.results(x, 0), "1 1 0 0 0 3");
        x.setPolicy(2);
        x.run(4);
        Check.due("two of each", Check.results(x, 0), "2 2 0 0 0 3");
        x.setPolicy(1);
        x.run(8);
        Check.due("one skipped, one removed", Check.results(x, 0), "2 3 1 1 0 3");
        CeilingWorkbench y = new CeilingWorkbench();
        Edges.addTask(y, 1, 60, 60, 0, 5);
        Edges.addTask(y, 9, 60, 60, 2, 1);
        y.run(60);
        Check.due("one preempted", Check.results(y, 0), "1 0 0 0 1 6");
        y.run(60);
        Check.due("the greatest response stays", Check.results(y, 0), "2 0 0 0 2 6");
    }

    private static void averages() {
        CeilingWorkbench x = Edges.one(1, 1, 0, 1);
        x.run(1);
        Check.due("one job", x.averageResponse(0), 1f);
        Edges.runAll(x, 399);
        Check.due("400 jobs", x.averageResponse(0), 1f);
        CeilingWorkbench y = new CeilingWorkbench();
        Edges.addTask(y, 1, 10, 10, 0, 1);
        Edges.addTask(y, 9, 30, 30, 0, 1);
        y.run(30);
        Check.due("not rounded to a whole number", y.averageResponse(0), 4f / 3f);
        Check.due("not as exact as a double", (double) y.averageResponse(0) == 4.0 / 3.0, false);
    }

    private static void noFinishedJob() {
        CeilingWorkbench x = Edges.one(60, 60, 1, 2);
        x.addTask(9, 1, 1, 0);
        for (int clock = 0; clock < 3; clock++) {
            Check.refused(x, "at clock " + clock, Edges.ARITHMETIC, () -> x.averageResponse(0));
            x.run(1);
        }
        Check.due("finished", x.averageResponse(0), 2f);
        Check.refused(x, "without segments", Edges.ARITHMETIC, () -> x.averageResponse(1));
        x.rewind();
        Check.refused(x, "after rewind", Edges.ARITHMETIC, () -> x.averageResponse(0));
    }

    private static void shares() {
        Check.due("always idle", Edges.at(400).utilization(), 0.0);
        CeilingWorkbench x = Edges.one(1, 1, 0, 1);
        x.run(1);
        Check.due("one unit", x.utilization(), 1.0);
        Edges.runAll(x, 399);
        Check.due("400 units", x.utilization(), 1.0);
        CeilingWorkbench y = Edges.one(60, 60, 0, 1);
        y.setServer(9, 1, 60);
        y.request(0, 1);
        y.run(3);
        Check.due("of tasks and the server", y.utilization(), 2.0 / 3.0);
        CeilingWorkbench z = Edges.one(60, 60, 39, 1);
        Edges.runAll(z, 400);
        Check.due("the last unit counts", z.utilization(), 7.0 / 400.0);
    }

    private static void noShare() {
        CeilingWorkbench x = new CeilingWorkbench();
        Check.refused(x, "at first", Edges.ARITHMETIC, x::utilization);
        x.run(1);
        Check.due("at clock 1", x.utilization(), 0.0);
        x.rewind();
        Check.refused(x, "after rewind", Edges.ARITHMETIC, x::utilization);
        x.run(1);
        x.clear();
        Check.refused(x, "after clear", Edges.ARITHMETIC, x::utilization);
    }
}
