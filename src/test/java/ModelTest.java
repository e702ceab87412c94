/** Runs of calls by number, the same each time: the workbench and the model answer the same. */
public final class ModelTest {
    private static final String[] WORDS = {"task", "server", "request", "segment", "policy", "continue", "abort",
        "skip", "none", "0", "1", "2", "3", "5", "9", "10", "12", "60", "61", "300", "999", "1000", "01", "x", ""};
    private static final int RUNS = 3000;

    private final CeilingWorkbench x = new CeilingWorkbench();
    private final Model y = new Model();
    private long seed;

    private ModelTest(long seed) {
        this.seed = seed;
    }

    public static void main(String[] args) {
        for (int run = 0; run < RUNS; run++) {
            new ModelTest(run).calls(run);
        }
        Check.end("ModelTest");
    }

    private int below(int limit) {
        seed = seed * 6364136223846793005L + 1442695040888963407L;
        return (int) ((seed >>> 33) % limit);
    }

    /** A number in the range, or seldom one just outside of it. */
    private int near(int least, int greatest) {
        if (below(40) == 0) {
            return below(2) == 0 ? least - 1 : greatest + 1;
        }
        return least + below(greatest - least + 1);
    }

    private void calls(int run) {
        below(2);
        int setUp = 5 + below(25);
        for (int k = 0; k < setUp; k++) {
            configureOnce(run);
        }
        for (int k = 0; k < 60; k++) {
            int kind = below(20);
            if (kind < 3) {
                configureOnce(run);
            } else if (kind < 5) {
                text(run);
            } else if (kind < 10) {
                move(run);
            } else {
                ask(run);
            }
        }
        Check.due("run " + run + ": nothing else differs", View.of(x), View.of(y));
    }

    private void same(int run, String call, Check.Call got, Check.Call want) {
        Check.due("run " + run + ": " + call, Check.answer(got), Check.answer(want));
    }

    private void configureOnce(int run) {
        int a = near(1, 9);
        int b = near(1, below(3) == 0 ? 60 : 12);
        int c = near(1, 9);
        int task = near(0, 4);
        switch (below(10)) {
            case 0, 1 -> {
                int deadline = below(3) == 0 ? b : near(1, Math.max(b, 1));
                int offset = below(3) == 0 ? near(0, 60) : near(0, 8);
                same(run, "addTask", () -> x.addTask(a, b, deadline, offset), () -> y.addTask(a, b, deadline, offset));
            }
            case 2 -> same(run, "setServer", () -> x.setServer(a, c, b), () -> y.setServer(a, c, b));
            case 3, 4 -> {
                int time = x.clock() + near(0, below(3) == 0 ? 300 : 20);
                same(run, "request", () -> x.request(time, c), () -> y.request(time, c));
            }
            case 5 -> {
                int policy = near(0, 2);
                same(run, "setPolicy", () -> x.setPolicy(policy), () -> y.setPolicy(policy));
            }
            default -> {
                int resource = near(-1, 3);
                int length = below(2) == 0 ? near(1, 9) : near(1, 3);
                same(run, "addSegment", () -> x.addSegment(task, resource, length),
                    () -> y.addSegment(task, resource, length));
            }
        }
    }

    private void text(int run) {
        StringBuilder made = new StringBuilder(command());
        if (below(3) == 0) {
            int at = below(made.length() + 1);
            switch (below(3)) {
                case 0 -> made.setLength(at);
                case 1 -> made.insert(at, (char) (32 + below(95)));
                default -> made.insert(at, ' ');
            }
        }
        for (int k = 0; k < made.length(); k++) {
            char c = below(300) == 0 ? (char) below(400) : made.charAt(k);
            same(run, "append", () -> x.append(c), () -> y.append(c));
        }
        if (below(15) != 0) {
            same(run, "configure of " + made, x::configure, y::configure);
            same(run, "errorPosition of " + made, x::errorPosition, y::errorPosition);
        }
    }

    private String command() {
        switch (below(6)) {
            case 0:
                return "task " + near(1, 9) + " " + near(1, 20) + " " + near(1, 9) + " " + near(0, 9);
            case 1:
                return "server " + near(1, 9) + " " + near(1, 9) + " " + near(1, 60);
            case 2:
                return "request " + (x.clock() + near(0, 9)) + " " + near(1, 9);
            case 3:
                return "segment " + near(0, 4) + " " + (below(2) == 0 ? "none" : near(0, 3)) + " " + near(1, 9);
            case 4:
                return "policy " + WORDS[5 + below(3)];
            default:
                StringBuilder words = new StringBuilder(WORDS[below(5)]);
                for (int k = below(5); k > 0; k--) {
                    words.append(' ').append(WORDS[below(WORDS.length)]);
                }
                return words.toString();
        }
    }

    private void move(int run) {
        int units = below(2) == 0 ? near(1, 100) : near(1, 9);
        switch (below(14)) {
            case 0 -> same(run, "rewind", x::rewind, y::rewind);
            case 1 -> same(run, "snapshot", x::snapshot, y::snapshot);
            case 2 -> same(run, "restore", x::restore, y::restore);
            case 3 -> {
                if (below(6) == 0) {
                    same(run, "clear", x::clear, y::clear);
                }
            }
            default -> same(run, "run", () -> x.run(units), () -> y.run(units));
        }
    }

    private void ask(int run) {
        int task = near(0, 4);
        int what = near(0, 5);
        int resource = near(0, 3);
        int time = near(0, Math.max(x.clock() - 1, 0));
        int request = near(0, 11);
        switch (below(10)) {
            case 0 -> same(run, "task", () -> x.task(task, what), () -> y.task(task, what));
            case 1 -> same(run, "bound", () -> x.bound(task), () -> y.bound(task));
            case 2 -> same(run, "witness", () -> x.witness(task), () -> y.witness(task));
            case 3 -> same(run, "ranAt", () -> x.ranAt(time), () -> y.ranAt(time));
            case 4 -> same(run, "pending", () -> x.pending(task), () -> y.pending(task));
            case 5 -> same(run, "activePriority", () -> x.activePriority(task), () -> y.activePriority(task));
            case 6 -> same(run, "holder", () -> x.holder(resource), () -> y.holder(resource));
            case 7 -> same(run, "result", () -> x.result(task, what), () -> y.result(task, what));
            case 8 -> same(run, "requestResponse", () -> x.requestResponse(request), () -> y.requestResponse(request));
            default -> Check.due("run " + run + ": view", View.of(x), View.of(y));
        }
    }
}
