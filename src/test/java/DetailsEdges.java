/** Boundary cases that the document tells under "Details". */
final class DetailsEdges {
    private static final String NO_PLAN = "NoSuchElementException";

    private DetailsEdges() {
    }

    static void all() {
        Sentences.section("Details");
        detailsOfJobs();
        detailsOfTheServer();
        detailsOfTexts();
        Sentences.holds("In a longest blocking, the jobs that are released in its units wait.",
            DetailsEdges::jobsWaitInABlocking);
        Sentences.holds("The policy can be set, and requests can be made, at any clock.", DetailsEdges::atAnyClock);
        Sentences.holds("Rewinding lets everything go that was counted, and releases that would be skipped; requests"
            + " stay.", DetailsEdges::rewinding);
    }

    private static void detailsOfJobs() {
        Sentences.holds("A job counts as preempted only if this very job ran before.", DetailsEdges::thisVeryJob);
        Sentences.holds("A task that has to skip its next release skips it under any policy.",
            DetailsEdges::skipUnderAnyPolicy);
        Sentences.holds("Between two segments that need the same resource, it is not held.",
            DetailsEdges::betweenSegments);
        Sentences.holds("When a job is removed, the next unfinished job of its task can run in the same unit.",
            DetailsEdges::nextJobInTheSameUnit);
    }

    private static void detailsOfTheServer() {
        Sentences.holds("The increase that is planned counts the units of this busy time of the server alone.",
            DetailsEdges::increaseOfThisBusyTime);
        Sentences.holds("The balance and the next replenishment are told without and with those that are planned for"
            + " the clock, respectively, as these take place in the next unit; a deadline, too, is missed only when"
            + " the next unit is made.", DetailsEdges::plannedForTheClock);
        Sentences.holds("Units of the server are not idle.", DetailsEdges::unitsOfTheServer);
    }

    private static void detailsOfTexts() {
        Sentences.holds("A number that is out of range in a text is a reason for IllegalStateException there.",
            DetailsEdges::outOfRangeInAText);
        Sentences.holds("Words, spaces and numbers of a text are errors at the first character that is wrong; none is"
            + " no number that can be written.", DetailsEdges::firstWrongCharacter);
    }

    private static void thisVeryJob() {
        CeilingWorkbench x = new CeilingWorkbench();
        Edges.addTask(x, 1, 4, 4, 0, 4);
        Edges.addTask(x, 9, 60, 60, 4, 1);
        x.run(5);
        Check.due("the job before is finished", Check.trace(x), "00001");
        Check.due("the next one has not run", x.result(0, 4), 0);
        CeilingWorkbench y = new CeilingWorkbench();
        Edges.addTask(y, 1, 4, 4, 0, 5);
        Edges.addTask(y, 9, 60, 60, 4, 1);
        y.setPolicy(1);
        y.run(5);
        Check.due("the job before is removed", Check.results(y, 0), "0 1 1 0 0 0");
        y.setPolicy(0);
        y.run(1);
        Check.due("the next one has run", Check.trace(y), "000010");
        CeilingWorkbench z = new CeilingWorkbench();
        Edges.addTask(z, 1, 4, 4, 0, 5);
        Edges.addTask(z, 9, 60, 60, 4, 1);
        z.run(5);
        Check.due("the same job goes on later", Check.results(z, 0), "0 1 0 0 1 0");
    }

    private static void skipUnderAnyPolicy() {
        for (int policy = 0; policy <= 2; policy++) {
            CeilingWorkbench x = Edges.one(4, 2, 0, 3);
            x.setPolicy(2);
            x.run(3);
            x.setPolicy(policy);
            x.run(2);
            Check.due("under " + policy, Check.results(x, 0), "1 1 0 1 0 3");
            Check.due("pending under " + policy, x.pending(0), 0);
            x.run(4);
            Check.due("only the next one, under " + policy, x.pending(0), 1);
        }
    }

    private static void betweenSegments() {
        CeilingWorkbench x = new CeilingWorkbench();
        x.addTask(1, 60, 60, 0);
        x.addSegment(0, 2, 2);
        x.addSegment(0, 2, 2);
        x.addTask(9, 60, 60, 2);
        x.addSegment(1, 2, 1);
        x.run(1);
        Check.due("held in the first", x.holder(2), 0);
        x.run(1);
        Check.due("not held between", x.holder(2), -1);
        Check.due("active priority between", x.activePriority(0), 1);
        x.run(2);
        Check.due("another one comes between", Check.trace(x), "0010");
        Check.due("held in the second", x.holder(2), 0);
        Check.due("preempted between", x.result(0, 4), 1);
    }

    private static void nextJobInTheSameUnit() {
        CeilingWorkbench x = Edges.one(3, 3, 0, 9);
        x.setPolicy(1);
        x.run(7);
        Check.due("no unit is lost", Check.trace(x), "0000000");
        Check.due("results", Check.results(x, 0), "0 2 2 0 0 0");
        x.setPolicy(0);
        x.run(7);
        Check.due("not before it has run 9 units", x.result(0, 0), 0);
        x.run(1);
        // The job of the time 6 is finished at 15, as it ran in the unit in which the one before was removed.
        Check.due("finished", x.result(0, 5), 9);
    }

    private static void increaseOfThisBusyTime() {
        CeilingWorkbench x = Edges.withServer(5, 9, 20);
        x.request(0, 4);
        x.request(6, 1);
        x.request(9, 2);
        x.run(11);
        Edges.dueServer(x, 2, 20);
        int[] clocks = {21, 27, 30};
        int[] balances = {6, 7, 9};
        for (int k = 0; k < 3; k++) {
            x.run(clocks[k] - x.clock());
            Check.due("balance at " + clocks[k], x.balance(), balances[k]);
        }
    }

    private static void plannedForTheClock() {
        CeilingWorkbench x = Edges.withServer(5, 1, 3);
        x.request(0, 1);
        x.run(3);
        Edges.dueServer(x, 0, 3);
        x.run(1);
        Edges.dueServer(x, 1, NO_PLAN);
        CeilingWorkbench y = Edges.one(60, 3, 0, 9);
        y.setPolicy(1);
        y.run(3);
        Check.due("not missed at the clock", Check.results(y, 0), "0 0 0 0 0 0");
        Check.due("not removed at the clock", y.pending(0), 1);
        y.run(1);
        Check.due("missed in the unit", Check.results(y, 0), "0 1 1 0 0 0");
        CeilingWorkbench z = Edges.one(60, 60, 40, 9, 9, 9, 9, 9, 9);
        Edges.addTask(z, 9, 60, 60, 40, 9);
        Edges.runAll(z, 400);
        Check.due("never missed at 400", z.result(0, 1), 5);
        CeilingWorkbench w = Edges.withServer(5, 1, 60);
        w.request(280, 2);
        Edges.runAll(w, 400);
        Edges.dueServer(w, 0, 400);
    }

    private static void unitsOfTheServer() {
        CeilingWorkbench x = Edges.withServer(5, 9, 60);
        x.request(0, 1);
        x.run(1);
        Check.due("the server alone", x.utilization(), 1.0);
        x.run(1);
        Check.due("then idle", x.utilization(), 0.5);
    }

    private static void outOfRangeInAText() {
        String[][] ranges = {{"task N 60 60 0", "1", "9"}, {"task 5 N 1 0", "1", "60"}, {"task 5 60 N 0", "1", "60"},
            {"task 5 60 60 N", "0", "60"}, {"server N 1 1", "1", "9"}, {"server 5 N 1", "1", "9"},
            {"server 5 1 N", "1", "60"}, {"request N 1", "0", "300"}, {"request 0 N", "1", "9"},
            {"segment N 0 1", "0", "0"}, {"segment 0 N 1", "0", "3"}, {"segment 0 none N", "1", "9"}};
        for (String[] range : ranges) {
            int least = Integer.parseInt(range[1]);
            int greatest = Integer.parseInt(range[2]);
            for (int number = 0; number <= 999; number++) {
                boolean isGood = number >= least && number <= greatest;
                CeilingWorkbench x = Edges.withTasks(range[0].startsWith("segment") ? 1 : 0, 0);
                Object answer = Check.configured(x, range[0].replace("N", Integer.toString(number)));
                Check.due(range[0] + " with " + number, answer.equals("IllegalStateException"), !isGood);
            }
        }
    }

    private static void firstWrongCharacter() {
        String[] texts = {"tank 1 1 1 1", "task_1 1 1 1", "task  1 1 1", "task 1,1 1 1", "request 0x 1",
            "request 10 012", "segment 0 nine 1", "segment 0 -1 1", "segment -1 0 1", "task 1 1 1 -1", "policy none",
            "policy -1", "server -1 1 1", "policy abbort"};
        int[] positions = {2, 4, 5, 6, 9, 12, 11, 10, 8, 11, 7, 7, 7, 9};
        for (int k = 0; k < texts.length; k++) {
            CeilingWorkbench x = new CeilingWorkbench();
            Check.due(texts[k], Check.configured(x, texts[k]), "IllegalArgumentException");
            Check.due("error position of " + texts[k], x.errorPosition(), positions[k]);
        }
    }

    private static void jobsWaitInABlocking() {
        CeilingWorkbench x = new CeilingWorkbench();
        x.addTask(5, 60, 60, 0);
        x.addSegment(0, 0, 1);
        Edges.addTask(x, 9, 3, 3, 0, 1);
        x.addTask(1, 60, 60, 0);
        x.addSegment(2, 0, 9);
        // 8 units blocked; the jobs of the times 0, 3, 6, 9 and 12 wait or come before its own unit.
        Check.due("witness", x.witness(0), 14);
        Check.due("bound", x.bound(0), 14);
    }

    private static void atAnyClock() {
        CeilingWorkbench x = Edges.withServer(5, 9, 60);
        int[] clocks = {0, 1, 150, 299, 300};
        for (int k = 0; k < clocks.length; k++) {
            Edges.runAll(x, clocks[k] - x.clock());
            Check.due("setPolicy at " + clocks[k], x.setPolicy((k + 1) % 3), k % 3);
            Check.due("request at " + clocks[k], x.request(clocks[k], 1), k);
        }
        Edges.runAll(x, 100);
        Check.due("setPolicy at 400", x.setPolicy(0), 2);
        for (int k = 0; k < clocks.length; k++) {
            Check.due("served at " + clocks[k], x.requestResponse(k), 1);
            Check.due("ran at " + clocks[k], x.ranAt(clocks[k]), 9);
        }
    }

    private static void rewinding() {
        CeilingWorkbench x = Edges.one(4, 2, 0, 3);
        x.setServer(9, 1, 60);
        x.request(3, 1);
        x.setPolicy(2);
        x.run(4);
        Check.due("a release would be skipped", Check.results(x, 0), "1 1 0 0 0 3");
        Check.due("rewind", x.rewind(), 4);
        Check.due("nothing is counted", Check.results(x, 0), "0 0 0 0 0 0");
        Edges.dueServer(x, 1, NO_PLAN);
        x.setPolicy(0);
        x.run(5);
        Check.due("no release is skipped", x.result(0, 3), 0);
        Check.due("the request is served again", x.requestResponse(0), 1);
        CeilingWorkbench y = Edges.full();
        Edges.runAll(y, 400);
        Check.due("rewind", y.rewind(), 400);
        CeilingWorkbench z = Edges.full();
        Check.due("as at first", View.of(y), View.of(z));
        Check.due("run", Edges.runAll(y, 400), Edges.runAll(z, 400));
        Check.due("the same again", View.of(y), View.of(z));
    }
}
