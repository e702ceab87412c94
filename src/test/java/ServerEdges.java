/** Boundary cases of the server and of requests: "Server" and the promises 5, 6 and 29 to 31. */
final class ServerEdges {
    private static final String NO_PLAN = "NoSuchElementException";

    private ServerEdges() {
    }

    static void all() {
        server();
        busyTimes();
        promiseSetServer();
        promiseRequest();
        promisesOfAnswers();
    }

    private static void server() {
        Sentences.section("Server");
        Sentences.holds("The server has a priority, a budget from 1 to 9, and a period from 1 to 60.",
            ServerEdges::limitsOfTheServer);
        Sentences.holds("It serves requests, of which there are at most 12, numbered from 0 in the order in which they"
            + " were made; a request has a time from 0 to 300 and a length from 1 to 9.",
            ServerEdges::limitsOfRequests);
        Sentences.holds("A request arrives at its time; arrived requests that are not finished are served in the order"
            + " of their times, and those with the same time in the order of their numbers.",
            ServerEdges::orderOfRequests);
        Sentences.holds("The server has a balance, which is its budget at time 0.", ServerEdges::balanceAtTimeZero);
        Sentences.holds("It is ready if there is a request to be served and the balance is greater than 0.",
            ServerEdges::ready);
    }

    private static void busyTimes() {
        Sentences.holds("When it runs for a unit and was not busy before, it becomes busy, and the time of the unit is"
            + " remembered.", ServerEdges::rememberedTime);
        Sentences.holds("Each unit that it runs decreases the balance by 1.", ServerEdges::balanceFallsToZero);
        Sentences.holds("At the end of a unit in which it was busy, it stops being busy if it is not ready any more; a"
            + " request that arrives at this very time does not count for that.", ServerEdges::endOfABusyTime);
        Sentences.holds("Then a replenishment is planned for the remembered time plus the period, or for the end of"
            + " this unit, if that is later: it will increase the balance by the number of units that the server ran"
            + " while it was busy.", ServerEdges::plannedTimes);
    }

    private static void promiseSetServer() {
        Sentences.section("Promise 5");
        Sentences.holds("Sets the server, in place of the one that there is.", ServerEdges::replacedServer);
        Sentences.holds("- priority: the priority, 1 to 9", ServerEdges::priorities);
        Sentences.holds("- budget: the budget, 1 to 9", ServerEdges::budgets);
        Sentences.holds("- period: the period, 1 to 60", ServerEdges::periods);
        Sentences.holds("Returns whether there was a server before.", ServerEdges::serverBefore);
        Sentences.holds("Throws IllegalArgumentException if a number is out of range", ServerEdges::serverOutOfRange);
        Sentences.holds("Throws IllegalStateException if the clock is not 0", ServerEdges::serverNotNow);
        Sentences.holds("Throws UnsupportedOperationException if a task has this priority",
            ServerEdges::serverWithTakenPriority);
    }

    private static void promiseRequest() {
        Sentences.section("Promise 6");
        Sentences.holds("Requests are never served without a server.", ServerEdges::neverServed);
        Sentences.holds("- time: the time, 0 to 300", ServerEdges::times);
        Sentences.holds("- length: the length, 1 to 9", ServerEdges::lengths);
        Sentences.holds("Returns the number of the request.", ServerEdges::twelveRequests);
        Sentences.holds("Throws IllegalArgumentException if a number is out of range, or the time is less than the"
            + " clock", ServerEdges::requestOutOfRange);
        Sentences.holds("Throws IllegalStateException if there are 12 requests", ServerEdges::twelveRequests);
    }

    private static void promisesOfAnswers() {
        Sentences.section("Promise 29");
        Sentences.holds("Returns the balance of the server.", ServerEdges::balanceFallsToZero);
        Sentences.holds("Throws IllegalStateException if there is no server", ServerEdges::noServer);
        Sentences.section("Promise 30");
        Sentences.holds("Returns the time of the next planned replenishment.", ServerEdges::nextOfSeveralPlans);
        Sentences.holds("Throws IllegalStateException if there is no server", ServerEdges::noServer);
        Sentences.holds("Throws NoSuchElementException if no replenishment is planned", ServerEdges::noPlan);
        Sentences.section("Promise 31");
        Sentences.holds("Returns the response of a request.", ServerEdges::leastAndGreatResponses);
        Sentences.holds("Throws IndexOutOfBoundsException if there is no such request", ServerEdges::noSuchRequest);
        Sentences.holds("Throws IllegalStateException if it is not finished", ServerEdges::notFinished);
    }

    private static void limitsOfTheServer() {
        CeilingWorkbench x = new CeilingWorkbench();
        Check.due("the least of all", x.setServer(1, 1, 1), false);
        Check.due("the greatest of all", x.setServer(9, 9, 60), true);
        priorities();
        budgets();
        periods();
    }

    private static void priorities() {
        Edges.range("a priority", 1, 9, Edges.ARGUMENT, CeilingWorkbench::new, (x, p) -> x.setServer(p, 9, 60));
    }

    private static void budgets() {
        Edges.range("a budget", 1, 9, Edges.ARGUMENT, CeilingWorkbench::new, (x, b) -> x.setServer(9, b, 1));
    }

    private static void periods() {
        Edges.range("a period", 1, 60, Edges.ARGUMENT, CeilingWorkbench::new, (x, p) -> x.setServer(1, 9, p));
    }

    private static void limitsOfRequests() {
        times();
        lengths();
        twelveRequests();
    }

    private static void times() {
        Edges.range("a time", 0, 300, Edges.ARGUMENT, CeilingWorkbench::new, (x, time) -> x.request(time, 9));
    }

    private static void lengths() {
        Edges.range("a length", 1, 9, Edges.ARGUMENT, CeilingWorkbench::new, (x, length) -> x.request(300, length));
    }

    private static void twelveRequests() {
        CeilingWorkbench x = Edges.withServer(5, 9, 60);
        for (int k = 0; k < 12; k++) {
            Check.due("request", x.request(300 - 20 * k, 1), k);
        }
        Check.refused(x, "the 13th request", Edges.STATE, () -> x.request(0, 1));
        Edges.runAll(x, 100);
        Check.due("finished", x.requestResponse(11), 1);
        Check.refused(x, "finished ones count too", Edges.STATE, () -> x.request(300, 1));
        x.rewind();
        Check.refused(x, "they stay after rewind", Edges.STATE, () -> x.request(300, 1));
        x.clear();
        Check.due("request after clear", x.request(0, 1), 0);
    }

    private static void orderOfRequests() {
        CeilingWorkbench x = Edges.withServer(5, 9, 60);
        x.request(300, 9);
        x.request(1, 1);
        x.request(0, 2);
        x.request(1, 1);
        x.request(0, 1);
        Edges.runAll(x, 309);
        Check.due("the first units", Check.trace(x).substring(0, 6), "SSSSS.");
        Check.due("the last units", Check.trace(x).substring(299), ".SSSSSSSSS");
        // Time 0 comes before time 1, and of two equal ones the lower number.
        int[] due = {9, 3, 2, 4, 3};
        for (int request = 0; request < 5; request++) {
            Check.due("requestResponse(" + request + ")", x.requestResponse(request), due[request]);
        }
    }

    private static void balanceAtTimeZero() {
        for (int budget = 1; budget <= 9; budget++) {
            CeilingWorkbench x = Edges.withServer(5, budget, 60);
            Check.due("at first", x.balance(), budget);
            x.request(0, 9);
            x.run(20);
            Check.due("spent", x.balance(), 0);
            x.rewind();
            Check.due("at 0 again", x.balance(), budget);
        }
    }

    private static void ready() {
        CeilingWorkbench x = Edges.withServer(5, 1, 60);
        x.request(2, 2);
        x.run(63);
        Check.due("not before a request, and not with a balance of 0", Check.trace(x),
            "..S" + ".".repeat(59) + "S");
        CeilingWorkbench y = Edges.withServer(5, 9, 60);
        y.request(0, 1);
        y.run(3);
        Check.due("not after the last request", Check.trace(y), "S..");
    }

    private static void rememberedTime() {
        CeilingWorkbench x = Edges.withServer(5, 3, 10);
        Edges.addTask(x, 9, 60, 60, 0, 3);
        x.request(0, 1);
        x.run(4);
        Check.due("it waits for the task", Check.trace(x), "000S");
        Edges.dueServer(x, 2, 13);
        CeilingWorkbench y = Edges.withServer(5, 3, 10);
        Edges.addTask(y, 9, 60, 60, 1, 3);
        y.request(0, 2);
        y.run(5);
        Check.due("it stays busy while another one runs", Check.trace(y), "S000S");
        Edges.dueServer(y, 1, 10);
    }

    private static void balanceFallsToZero() {
        CeilingWorkbench x = Edges.withServer(5, 9, 60);
        x.request(0, 9);
        x.request(0, 9);
        for (int left = 9; left > 0; left--) {
            Check.due("balance", x.balance(), left);
            x.run(1);
        }
        Check.due("balance", x.balance(), 0);
        x.run(51);
        Check.due("not below 0", x.balance(), 0);
        x.run(1);
        Check.due("filled, and one unit less", x.balance(), 8);
    }

    private static void endOfABusyTime() {
        CeilingWorkbench x = Edges.withServer(5, 5, 10);
        x.request(0, 2);
        x.request(2, 1);
        x.run(2);
        Edges.dueServer(x, 3, 10);
        CeilingWorkbench y = Edges.withServer(5, 5, 10);
        y.request(0, 2);
        y.request(1, 1);
        y.run(2);
        Edges.dueServer(y, 3, NO_PLAN);
        y.run(1);
        Edges.dueServer(y, 2, 10);
        CeilingWorkbench z = Edges.withServer(5, 2, 10);
        z.request(0, 3);
        z.run(1);
        Edges.dueServer(z, 1, NO_PLAN);
        z.run(1);
        Edges.dueServer(z, 0, 10);
    }

    private static void plannedTimes() {
        // A busy time of three units from 1 to 4, with the planned time before, at and after its end.
        int[] periods = {1, 2, 3, 4, 60};
        for (int period : periods) {
            CeilingWorkbench x = Edges.withServer(5, 9, period);
            x.request(1, 3);
            x.run(4);
            int planned = Math.max(1 + period, 4);
            Edges.dueServer(x, 6, planned);
            Edges.runAll(x, planned - 4);
            Edges.dueServer(x, 6, planned);
            x.run(1);
            Edges.dueServer(x, 9, NO_PLAN);
        }
    }

    private static void replacedServer() {
        CeilingWorkbench x = Edges.withServer(9, 9, 60);
        x.request(0, 2);
        x.run(1);
        x.rewind();
        Check.due("setServer", x.setServer(1, 1, 1), true);
        Edges.dueServer(x, 1, NO_PLAN);
        Check.due("the old priority is free", x.addTask(9, 10, 10, 0), 0);
        Check.due("load of the new one alone", x.load(), 1.0);
        Edges.addTask(x, 2, 60, 60, 0, 1);
        x.run(4);
        Check.due("the new one serves", Check.trace(x), "1SS.");
    }

    private static void serverBefore() {
        CeilingWorkbench x = new CeilingWorkbench();
        Check.answer(() -> x.setServer(0, 1, 1));
        Check.due("a refused one was not set", x.setServer(1, 1, 1), false);
        Check.due("the same again", x.setServer(1, 1, 1), true);
        x.clear();
        Check.due("after clear", x.setServer(1, 1, 1), false);
    }

    private static void serverOutOfRange() {
        int[][] wrong = {{0, 1, 1}, {10, 9, 60}, {1, 0, 1}, {9, 10, 60}, {1, 1, 0}, {9, 9, 61}, {-1, -1, -1},
            {Edges.LEAST, Edges.LEAST, Edges.LEAST}, {Edges.GREATEST, Edges.GREATEST, Edges.GREATEST}};
        CeilingWorkbench x = new CeilingWorkbench();
        CeilingWorkbench y = Edges.withServer(5, 4, 3);
        for (int[] a : wrong) {
            Check.refused(x, "setServer", Edges.ARGUMENT, () -> x.setServer(a[0], a[1], a[2]));
            Check.refused(y, "setServer again", Edges.ARGUMENT, () -> y.setServer(a[0], a[1], a[2]));
        }
    }

    private static void serverNotNow() {
        CeilingWorkbench x = Edges.withServer(5, 1, 1);
        int[] steps = {1, 99, 100, 100, 100};
        for (int step : steps) {
            x.run(step);
            Check.refused(x, "at clock " + x.clock(), Edges.STATE, () -> x.setServer(5, 1, 1));
        }
        x.rewind();
        Check.due("at clock 0 again", x.setServer(5, 1, 1), true);
    }

    private static void serverWithTakenPriority() {
        CeilingWorkbench x = new CeilingWorkbench();
        for (int task = 0; task < 5; task++) {
            int priority = 2 * task + 1;
            x.addTask(priority, 10, 10, 0);
            Check.refused(x, "the priority of task " + task, Edges.TAKEN, () -> x.setServer(priority, 1, 1));
        }
        Check.due("a free one", x.setServer(8, 1, 1), false);
        Check.refused(x, "that of the first task", Edges.TAKEN, () -> x.setServer(1, 1, 1));
        Check.due("its own", x.setServer(8, 2, 2), true);
    }

    private static void neverServed() {
        CeilingWorkbench x = new CeilingWorkbench();
        x.request(0, 1);
        x.request(300, 9);
        Edges.runAll(x, 400);
        Check.due("idle", x.utilization(), 0.0);
        Check.refused(x, "requestResponse(0)", Edges.STATE, () -> x.requestResponse(0));
        Check.refused(x, "requestResponse(1)", Edges.STATE, () -> x.requestResponse(1));
    }

    private static void requestOutOfRange() {
        times();
        lengths();
        int[] clocks = {1, 2, 299, 300};
        for (int clock : clocks) {
            CeilingWorkbench x = Edges.at(clock);
            Check.refused(x, "just before the clock", Edges.ARGUMENT, () -> x.request(clock - 1, 1));
            Check.refused(x, "long before the clock", Edges.ARGUMENT, () -> x.request(0, 1));
            Check.due("at the clock", x.request(clock, 1), 0);
            Check.due("at 300", x.request(300, 1), 1);
        }
        int[] tooLate = {301, 400};
        for (int clock : tooLate) {
            CeilingWorkbench x = Edges.at(clock);
            Check.refused(x, "300 is over", Edges.ARGUMENT, () -> x.request(300, 1));
            Check.refused(x, "the clock is out of range", Edges.ARGUMENT, () -> x.request(clock, 1));
        }
    }

    private static void noServer() {
        CeilingWorkbench x = new CeilingWorkbench();
        for (int k = 0; k < 2; k++) {
            Check.refused(x, "balance", Edges.STATE, x::balance);
            Check.refused(x, "nextReplenishment", Edges.STATE, x::nextReplenishment);
            x.setServer(5, 2, 60);
            x.request(0, 3);
            x.run(5);
            Edges.dueServer(x, 0, 60);
            x.clear();
        }
    }

    private static void nextOfSeveralPlans() {
        CeilingWorkbench x = Edges.withServer(5, 9, 60);
        for (int k = 0; k < 9; k++) {
            x.request(2 * k, 1);
        }
        // Nine busy times of one unit: as many plans as there can be at once.
        for (int k = 0; k < 9; k++) {
            x.run(2);
            Edges.dueServer(x, 8 - k, 60);
        }
        x.run(42);
        for (int k = 0; k < 9; k++) {
            Edges.dueServer(x, k, 60 + 2 * k);
            x.run(1);
            Edges.dueServer(x, k + 1, k < 8 ? (Object) (62 + 2 * k) : NO_PLAN);
            x.run(1);
        }
        CeilingWorkbench y = Edges.withServer(5, 1, 60);
        Edges.runAll(y, 300);
        y.request(300, 1);
        y.run(100);
        Edges.dueServer(y, 1, NO_PLAN);
        CeilingWorkbench z = Edges.withServer(1, 1, 60);
        Edges.addTask(z, 9, 60, 60, 0, 9, 9, 9, 9, 9, 9);
        z.request(298, 2);
        Edges.runAll(z, 400);
        // It is served at 298 and 358, and the last plan is beyond the last unit.
        Edges.dueServer(z, 0, 418);
    }

    private static void noPlan() {
        CeilingWorkbench x = Edges.withServer(5, 2, 10);
        Check.refused(x, "at first", Edges.NO_SUCH, x::nextReplenishment);
        x.request(1, 2);
        x.run(1);
        Check.refused(x, "before the request", Edges.NO_SUCH, x::nextReplenishment);
        x.run(1);
        Check.refused(x, "while it is busy", Edges.NO_SUCH, x::nextReplenishment);
        x.run(1);
        Check.due("planned", x.nextReplenishment(), 11);
        x.run(8);
        Check.due("planned for the clock", x.nextReplenishment(), 11);
        x.run(1);
        Check.refused(x, "it took place", Edges.NO_SUCH, x::nextReplenishment);
        x.rewind();
        x.run(3);
        x.rewind();
        Check.refused(x, "after rewind", Edges.NO_SUCH, x::nextReplenishment);
    }

    private static void leastAndGreatResponses() {
        CeilingWorkbench x = Edges.withServer(5, 1, 60);
        x.request(0, 1);
        x.request(0, 6);
        Edges.runAll(x, 360);
        Check.due("the least", x.requestResponse(0), 1);
        Check.refused(x, "not yet", Edges.STATE, () -> x.requestResponse(1));
        x.run(1);
        Check.due("the other is served every 60 units", x.requestResponse(1), 361);
    }

    private static void noSuchRequest() {
        for (int count = 0; count <= 12; count++) {
            int requests = count;
            Edges.range("requestResponse among " + count, 0, count - 1, Edges.INDEX, () -> served(requests),
                (x, request) -> x.requestResponse(request));
        }
    }

    private static CeilingWorkbench served(int requests) {
        CeilingWorkbench x = Edges.withServer(5, 9, 1);
        for (int k = 0; k < requests; k++) {
            x.request(k, 1);
        }
        x.run(20);
        return x;
    }

    private static void notFinished() {
        CeilingWorkbench x = Edges.withServer(5, 9, 60);
        x.request(2, 9);
        for (int clock = 0; clock < 11; clock++) {
            Check.refused(x, "at clock " + clock, Edges.STATE, () -> x.requestResponse(0));
            x.run(1);
        }
        Check.due("finished", x.requestResponse(0), 9);
        x.rewind();
        Check.refused(x, "after rewind", Edges.STATE, () -> x.requestResponse(0));
    }
}
