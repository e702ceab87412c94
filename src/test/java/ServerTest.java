/** Promises 29 to 31, and the server in the simulation. */
public final class ServerTest {
    private static final String STATE = "IllegalStateException";
    private static final String NO_SUCH = "NoSuchElementException";

    public static void main(String[] args) {
        withoutServer();
        balanceRunsOut();
        planAtTheEndOfALongBusyTime();
        requestAtTheVeryEndDoesNotCount();
        requestBeforeTheEndCounts();
        severalPlans();
        orderOfRequests();
        requestsMadeInTheRun();
        serverBelowAndAboveTasks();
        requestResponses();
        Check.end("ServerTest");
    }

    private static CeilingWorkbench server(int priority, int budget, int period) {
        CeilingWorkbench x = new CeilingWorkbench();
        x.setServer(priority, budget, period);
        return x;
    }

    private static void dueServer(CeilingWorkbench x, int balance, Object next) {
        Check.due("balance at " + x.clock(), x.balance(), balance);
        Check.due("nextReplenishment at " + x.clock(), Check.answer(x::nextReplenishment), next);
    }

    private static void withoutServer() {
        CeilingWorkbench x = new CeilingWorkbench();
        x.request(0, 1);
        x.run(2);
        Check.refused(x, "balance", IllegalStateException.class, x::balance);
        Check.refused(x, "nextReplenishment", IllegalStateException.class, x::nextReplenishment);
        CeilingWorkbench y = server(5, 3, 7);
        dueServer(y, 3, NO_SUCH);
        y.run(10);
        dueServer(y, 3, NO_SUCH);
    }

    private static void balanceRunsOut() {
        CeilingWorkbench x = server(5, 2, 6);
        x.request(1, 5);
        x.run(1);
        dueServer(x, 2, NO_SUCH);
        x.run(1);
        // It is busy, so nothing is planned yet.
        dueServer(x, 1, NO_SUCH);
        x.run(1);
        dueServer(x, 0, 7);
        x.run(4);
        dueServer(x, 0, 7);
        x.run(1);
        dueServer(x, 1, NO_SUCH);
        x.run(1);
        dueServer(x, 0, 13);
        x.run(5);
        // The last unit ends the request and the busy time with a balance of 1.
        dueServer(x, 1, 19);
        Check.due("trace", Check.trace(x), ".SS....SS....S");
        Check.due("response", x.requestResponse(0), 13);
        x.run(6);
        dueServer(x, 2, NO_SUCH);
    }

    private static void planAtTheEndOfALongBusyTime() {
        CeilingWorkbench x = server(1, 3, 2);
        x.addSegment(x.addTask(9, 60, 60, 1), -1, 5);
        x.request(0, 2);
        x.run(6);
        dueServer(x, 2, NO_SUCH);
        x.run(1);
        Check.due("trace", Check.trace(x), "S00000S");
        // It was remembered for 0 + 2, but the end of the unit is later.
        dueServer(x, 1, 7);
        x.run(1);
        dueServer(x, 3, NO_SUCH);
    }

    private static void requestAtTheVeryEndDoesNotCount() {
        CeilingWorkbench x = server(5, 5, 10);
        x.request(0, 2);
        x.request(2, 1);
        x.run(2);
        dueServer(x, 3, 10);
        x.run(1);
        dueServer(x, 2, 10);
        x.run(7);
        dueServer(x, 2, 10);
        x.run(1);
        dueServer(x, 4, 12);
        x.run(1);
        dueServer(x, 4, 12);
        x.run(1);
        dueServer(x, 5, NO_SUCH);
    }

    private static void requestBeforeTheEndCounts() {
        CeilingWorkbench x = server(5, 5, 10);
        x.request(0, 2);
        x.request(1, 1);
        x.run(2);
        dueServer(x, 3, NO_SUCH);
        x.run(1);
        dueServer(x, 2, 10);
        x.run(8);
        dueServer(x, 5, NO_SUCH);
    }

    private static void severalPlans() {
        CeilingWorkbench x = server(5, 9, 60);
        for (int time = 0; time < 18; time += 2) {
            x.request(time, 1);
        }
        x.request(20, 1);
        x.run(18);
        dueServer(x, 0, 60);
        x.run(43);
        Check.due("the tenth waits for the first plan", x.requestResponse(9), 41);
        // The plan of time 60 was used at once, and is planned again for 120.
        dueServer(x, 0, 62);
        x.run(17);
        dueServer(x, 8, 120);
        x.run(42);
        dueServer(x, 8, 120);
        x.run(1);
        dueServer(x, 9, NO_SUCH);
    }

    private static void orderOfRequests() {
        CeilingWorkbench x = server(5, 9, 9);
        x.request(5, 1);
        x.request(0, 2);
        x.request(0, 1);
        x.request(1, 1);
        x.run(7);
        Check.due("trace", Check.trace(x), "SSSS.S.");
        Check.due("response", x.requestResponse(0), 1);
        Check.due("response", x.requestResponse(1), 2);
        Check.due("response", x.requestResponse(2), 3);
        Check.due("response", x.requestResponse(3), 3);
    }

    private static void requestsMadeInTheRun() {
        CeilingWorkbench x = server(5, 9, 9);
        x.run(3);
        x.request(3, 2);
        x.run(1);
        x.request(4, 1);
        x.run(2);
        Check.due("trace", Check.trace(x), "...SSS");
        Check.due("response", x.requestResponse(0), 2);
        Check.due("response", x.requestResponse(1), 2);
        dueServer(x, 6, 12);
    }

    private static void serverBelowAndAboveTasks() {
        CeilingWorkbench x = server(5, 3, 20);
        x.addSegment(x.addTask(9, 30, 30, 2), 0, 1);
        x.addSegment(x.addTask(3, 30, 30, 0), 0, 3);
        x.addTask(1, 30, 30, 0);
        x.addSegment(2, 1, 2);
        x.request(1, 3);
        Check.due("run counts jobs alone", x.run(9), 3);
        // Task 1 holds a resource with the ceiling 9, so the server waits for it as task 0 does.
        Check.due("trace", Check.trace(x), "1110SSS22");
        Check.due("response", x.requestResponse(0), 6);
    }

    private static void requestResponses() {
        CeilingWorkbench x = server(5, 2, 9);
        int[] none = {-1, 0, 12, Integer.MIN_VALUE, Integer.MAX_VALUE};
        for (int request : none) {
            Check.refused(x, "no such request", IndexOutOfBoundsException.class, () -> x.requestResponse(request));
        }
        x.request(2, 2);
        x.request(3, 1);
        x.run(3);
        Check.refused(x, "not finished", IllegalStateException.class, () -> x.requestResponse(0));
        x.run(1);
        Check.due("finished", x.requestResponse(0), 2);
        Check.refused(x, "not begun", IllegalStateException.class, () -> x.requestResponse(1));
        Check.refused(x, "no such request", IndexOutOfBoundsException.class, () -> x.requestResponse(2));
        x.rewind();
        Check.due("not finished after rewind", Check.answer(() -> x.requestResponse(0)), STATE);
        x.run(4);
        Check.due("finished again", x.requestResponse(0), 2);
    }
}
