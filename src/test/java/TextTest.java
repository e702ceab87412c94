/** Promises 8 to 10: the input buffer, the commands in it, and the error position. */
public final class TextTest {
    private static final String MALFORMED = "IllegalArgumentException";
    private static final String REFUSED = "IllegalStateException";

    public static void main(String[] args) {
        append();
        commands();
        commandsDoWhatTheMethodsDo();
        refusedCommands();
        errorPositions();
        errorPositionIsKept();
        bufferIsEmptyAfterwards();
        Check.end("TextTest");
    }

    private static void append() {
        CeilingWorkbench x = new CeilingWorkbench();
        Check.refused(x, "append(31)", IllegalArgumentException.class, () -> x.append((char) 31));
        Check.refused(x, "append(127)", IllegalArgumentException.class, () -> x.append((char) 127));
        Check.refused(x, "append(0)", IllegalArgumentException.class, () -> x.append((char) 0));
        Check.refused(x, "append(65535)", IllegalArgumentException.class, () -> x.append((char) 65535));
        for (int k = 1; k <= 60; k++) {
            Check.due("append", x.append(k % 2 == 0 ? ' ' : '~'), k);
        }
        Check.refused(x, "the 61st append", IllegalStateException.class, () -> x.append('a'));
        Check.refused(x, "the code before the room", IllegalArgumentException.class, () -> x.append((char) 200));
        Check.due("configure", Check.answer(x::configure), MALFORMED);
        Check.due("append after configure", x.append('a'), 1);
    }

    private static void commands() {
        CeilingWorkbench x = new CeilingWorkbench();
        Check.due("task", Check.configured(x, "task 9 60 59 0"), 0);
        Check.due("task", Check.configured(x, "task 1 10 10 60"), 1);
        Check.due("segment", Check.configured(x, "segment 1 none 9"), 1);
        Check.due("segment", Check.configured(x, "segment 1 0 4"), 2);
        Check.due("segment", Check.configured(x, "segment 0 3 1"), 1);
        Check.due("server", Check.configured(x, "server 5 2 9"), 0);
        Check.due("server again", Check.configured(x, "server 4 2 9"), 1);
        Check.due("request", Check.configured(x, "request 0 1"), 0);
        Check.due("request", Check.configured(x, "request 300 9"), 1);
        Check.due("policy", Check.configured(x, "policy abort"), 0);
        Check.due("policy", Check.configured(x, "policy skip"), 1);
        Check.due("policy", Check.configured(x, "policy continue"), 2);
        Check.due("policy", Check.configured(x, "policy continue"), 0);
        x.run(10);
        Check.due("request at clock 10", Check.configured(x, "request 10 1"), 2);
        Check.due("policy at clock 10", Check.configured(x, "policy skip"), 0);
    }

    private static void commandsDoWhatTheMethodsDo() {
        CeilingWorkbench x = new CeilingWorkbench();
        CeilingWorkbench y = new CeilingWorkbench();
        String[] texts = {"task 5 10 9 3", "task 2 20 19 0", "segment 0 1 2", "segment 1 1 7", "segment 1 none 3",
            "server 7 3 8", "request 4 5", "policy abort"};
        for (String text : texts) {
            Check.configured(x, text);
        }
        y.addTask(5, 10, 9, 3);
        y.addTask(2, 20, 19, 0);
        y.addSegment(0, 1, 2);
        y.addSegment(1, 1, 7);
        y.addSegment(1, -1, 3);
        y.setServer(7, 3, 8);
        y.request(4, 5);
        y.setPolicy(1);
        Check.due("configured by text", View.of(x), View.of(y));
        Check.due("run", x.run(50), y.run(50));
        Check.due("run after texts", View.of(x), View.of(y));
    }

    private static void refusedCommands() {
        CeilingWorkbench x = new CeilingWorkbench();
        x.addTask(5, 10, 10, 0);
        for (int k = 0; k < 6; k++) {
            x.addSegment(0, 0, 1);
        }
        String[] texts = {"task 0 10 10 0", "task 10 10 10 0", "task 5 10 10 0", "task 6 10 11 0", "task 6 999 1 0",
            "task 6 10 10 999", "segment 1 0 1", "segment 0 4 1", "segment 0 0 0", "segment 0 none 1",
            "segment 999 none 1", "server 5 1 1", "server 0 1 1", "server 1 10 1", "server 1 1 0", "request 301 1",
            "request 0 0", "request 999 9"};
        String before = View.of(x);
        for (String text : texts) {
            Check.due(text, Check.configured(x, text), REFUSED);
            Check.due(text + " leaves the state", View.of(x), before);
            Check.due(text + " empties the buffer", Check.answer(x::configure), MALFORMED);
            before = View.of(x);
        }
        x.run(1);
        Check.due("task at clock 1", Check.configured(x, "task 6 10 10 0"), REFUSED);
        Check.due("segment at clock 1", Check.configured(x, "segment 0 0 1"), REFUSED);
        Check.due("server at clock 1", Check.configured(x, "server 6 1 1"), REFUSED);
        Check.due("request of the past", Check.configured(x, "request 0 1"), REFUSED);
    }

    private static void errorPositions() {
        due("", 0);
        due(" ", 0);
        due(" task 1 1 1 1", 0);
        due("Task 1 1 1 1", 0);
        due("x", 0);
        due("t", 1);
        due("task", 4);
        due("tasks", 4);
        due("task1", 4);
        due("task ", 5);
        due("task  1", 5);
        due("task -1 1 1 1", 5);
        due("task 1", 6);
        due("task 1 2 3", 10);
        due("task 1 2 3 ", 11);
        due("task 1 2 3 4 ", 12);
        due("task 1 2 3 4 5", 12);
        due("task 1 2 3 4x", 12);
        due("task 01 2 3 4", 6);
        due("task 00 2 3 4", 6);
        due("task 100 2 3 4x", 14);
        due("task 1000 2 3 4", 8);
        due("task 1 2 3 1000", 14);
        due("task 1 2 3 00", 12);
        due("task 1 2 3 none", 11);
        due("task # # # #", 5);
        due("s", 1);
        due("se", 2);
        due("sex", 2);
        due("sr", 1);
        due("serv", 4);
        due("segmant", 4);
        due("segments", 7);
        due("server 1 none 3", 9);
        due("server 1 2 3 4", 12);
        due("request 1", 9);
        due("request 1 2 3", 11);
        due("request one", 8);
        due("segment none 0 1", 8);
        due("segment 0 n", 11);
        due("segment 0 nobody 1", 12);
        due("segment 0 none", 14);
        due("segment 0 nones", 14);
        due("segment 0 none ", 15);
        due("segment 0 none none", 15);
        due("segment 0 0none 1", 11);
        due("segment 0 -1 1", 10);
        due("segment 0 1 2 ", 13);
        due("policy", 6);
        due("policy ", 7);
        due("policy 0", 7);
        due("policy a", 8);
        due("policy b", 7);
        due("policy aborts", 12);
        due("policy abort ", 12);
        due("policy abort skip", 12);
        due("policy continua", 14);
        due("policy skap", 9);
        due("policy ski", 10);
        due("policy  skip", 7);
    }

    private static void due(String text, int position) {
        CeilingWorkbench x = new CeilingWorkbench();
        Check.due("'" + text + "'", Check.configured(x, text), MALFORMED);
        Check.due("error position of '" + text + "'", x.errorPosition(), position);
        Check.due("tasks after '" + text + "'", x.taskCount(), 0);
    }

    private static void errorPositionIsKept() {
        CeilingWorkbench x = new CeilingWorkbench();
        Check.due("none yet", Check.answer(x::errorPosition), "NoSuchElementException");
        Check.configured(x, "policy skip");
        Check.configured(x, "segment 0 0 1");
        Check.due("neither done nor refused counts", Check.answer(x::errorPosition), "NoSuchElementException");
        Check.configured(x, "tusk");
        Check.configured(x, "policy skip");
        Check.configured(x, "segment 0 0 1");
        Check.due("kept", x.errorPosition(), 1);
        x.rewind();
        x.clear();
        Check.due("kept by clear and rewind", x.errorPosition(), 1);
        Check.configured(x, "policy run");
        Check.due("the last one", x.errorPosition(), 7);
        Check.configured(x, "");
        Check.due("of the empty text", x.errorPosition(), 0);
    }

    private static void bufferIsEmptyAfterwards() {
        CeilingWorkbench x = new CeilingWorkbench();
        Check.configured(x, "policy skip");
        Check.due("after a command", x.append('a'), 1);
        Check.due("malformed", Check.configured(x, "b"), MALFORMED);
        Check.due("after a malformed one", x.append('a'), 1);
        Check.answer(x::configure);
        Check.due("refused", Check.configured(x, "task 1 1 2 0"), REFUSED);
        Check.due("after a refused one", x.append('a'), 1);
        x.rewind();
        x.snapshot();
        x.append('b');
        x.restore();
        Check.due("neither snapshot nor restore touches it", x.append('c'), 3);
    }
}
