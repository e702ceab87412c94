/** Promises 33 and 34: the snapshot, and coming back to it. */
public final class SnapshotTest {
    public static void main(String[] args) {
        withoutSnapshot();
        everythingComesBack();
        anEarlierOneIsReplaced();
        configurationComesBack();
        textAndErrorPositionStay();
        laterCallsDoNotTouchIt();
        Check.end("SnapshotTest");
    }

    private static void withoutSnapshot() {
        CeilingWorkbench x = Check.busyBench(0);
        x.run(5);
        Check.refused(x, "restore", IllegalStateException.class, x::restore);
        x.clear();
        Check.refused(x, "restore after clear", IllegalStateException.class, x::restore);
    }

    /** At each clock and under each policy: what a snapshot does not take would show in what follows. */
    private static void everythingComesBack() {
        for (int policy = 0; policy < 3; policy++) {
            for (int units = 1; units <= 40; units++) {
                CeilingWorkbench x = Check.busyBench(policy);
                x.run(units);
                String then = View.of(x);
                Check.due("snapshot", x.snapshot(), units);
                int finished = x.run(60);
                String later = View.of(x);
                x.setPolicy((policy + 1) % 3);
                x.clear();
                x.addTask(1, 3, 3, 1);
                x.addSegment(0, 3, 5);
                x.setServer(9, 7, 13);
                x.request(3, 9);
                x.run(100);
                Check.due("restore", x.restore(), units);
                Check.due("restored", View.of(x), then);
                Check.due("run again", x.run(60), finished);
                Check.due("the same again", View.of(x), later);
                Check.due("restore again", x.restore(), units);
                Check.due("restored again", View.of(x), then);
                x.rewind();
                x.run(units);
                Check.due("made anew after a restore", View.of(x), then);
            }
        }
    }

    private static void anEarlierOneIsReplaced() {
        CeilingWorkbench x = Check.busyBench(0);
        Check.due("snapshot", x.snapshot(), 0);
        x.run(20);
        Check.due("snapshot", x.snapshot(), 20);
        x.run(20);
        Check.due("restore", x.restore(), 20);
        Check.due("clock", x.clock(), 20);
        x.rewind();
        Check.due("restore after rewind", x.restore(), 20);
    }

    private static void configurationComesBack() {
        CeilingWorkbench x = new CeilingWorkbench();
        x.snapshot();
        x.addTask(5, 10, 10, 0);
        x.addSegment(0, 2, 3);
        x.setServer(6, 1, 1);
        x.request(0, 1);
        x.setPolicy(2);
        Check.due("restore", x.restore(), 0);
        Check.due("as new", View.of(x), View.of(new CeilingWorkbench()));
        Check.due("no task has the priority", x.addTask(6, 10, 10, 0), 0);
        Check.due("no segment", x.addSegment(0, -1, 3), 1);
        Check.due("no server", x.setServer(5, 1, 1), false);
        Check.due("no request", x.request(0, 1), 0);
    }

    private static void textAndErrorPositionStay() {
        CeilingWorkbench x = new CeilingWorkbench();
        x.append('t');
        x.snapshot();
        Check.typed(x, "ask1");
        Check.answer(x::configure);
        Check.typed(x, "po");
        x.restore();
        Check.due("error position", x.errorPosition(), 4);
        Check.due("buffer", x.append('l'), 3);
    }

    private static void laterCallsDoNotTouchIt() {
        CeilingWorkbench x = Check.busyBench(0);
        x.snapshot();
        CeilingWorkbench y = Check.busyBench(0);
        for (int k = 0; k < 3; k++) {
            x.setPolicy(k);
            x.run(30);
            x.request(60, 2);
            x.restore();
            Check.due("restored", View.of(x), View.of(y));
        }
        x.addSegment(0, 3, 3);
        x.restore();
        Check.due("restored segments", View.of(x), View.of(y));
    }
}
