import java.util.ArrayList;
import java.util.List;

/**
 * Every method with numbers at, and just beyond, the ends of their ranges, in states from empty to full: the answers
 * are those of the model, and a call that throws leaves nothing behind. Only configure is left to TextEdges, as its
 * description says that it empties the buffer in any case.
 */
final class RefusedCalls {
    private static final String LEAST = " " + Integer.MIN_VALUE;
    private static final String GREATEST = " " + Integer.MAX_VALUE;
    private static final String TASK = LEAST + " -1 0 1 4 5" + GREATEST;
    private static final String PRIORITY = LEAST + " 0 1 5 6 9 10" + GREATEST;
    private static final String PERIOD = " -1 0 1 60 61" + GREATEST;
    private static final String LENGTH = LEAST + " 0 1 9 10";
    private static final String WHAT = LEAST + " -1 0 5 6" + GREATEST;
    private static final String RESOURCE = LEAST + " -2 -1 0 3 4" + GREATEST;
    private static final String TIME = LEAST + " -1 0 1 6 7 8 300 301 399 400" + GREATEST;

    /** A method with the numbers that are tried for each of its parameters. */
    private static final String[][] METHODS = {
        {"addTask", PRIORITY, PERIOD, PERIOD, " -1 0 60 61"}, {"addSegment", TASK, RESOURCE, LENGTH},
        {"setServer", PRIORITY, LENGTH, PERIOD}, {"request", TIME, LENGTH},
        {"setPolicy", LEAST + " -1 0 2 3" + GREATEST}, {"append", " 0 31 32 126 127 65535"}, {"errorPosition"},
        {"task", TASK, WHAT}, {"ceiling", RESOURCE},
        {"blocking", TASK}, {"bound", TASK}, {"witness", TASK}, {"run", LEAST + " -1 0 1 100 101" + GREATEST},
        {"ranAt", TIME}, {"pending", TASK}, {"activePriority", TASK}, {"holder", RESOURCE}, {"result", TASK, WHAT},
        {"averageResponse", TASK}, {"balance"}, {"nextReplenishment"}, {"requestResponse", LEAST + " -1 0 1 11 12"},
        {"utilization"}, {"restore"}, {"clear"}, {"rewind"}, {"snapshot"}, {"taskCount"}, {"clock"},
        {"isSchedulable"}, {"load"}, {"hyperbolicLoad"},
    };

    private static final String[] TWO_TASKS = {"addTask 5 7 3 0", "addTask 1 9 9 2", "addSegment 0 0 2",
        "addSegment 1 0 3", "addSegment 1 -1 4", "setServer 6 2 5", "request 0 3", "request 6 1", "setPolicy 2"};

    private RefusedCalls() {
    }

    static void leaveTheState() {
        List<String[]> states = new ArrayList<>();
        states.add(new String[] {});
        states.add(new String[] {"run 1", "type policy sk"});
        states.add(TWO_TASKS);
        states.add(with(TWO_TASKS, "run 7", "type policy abort"));
        states.add(with(TWO_TASKS, "snapshot", "run 7", "rewind", "type tusk", "configure"));
        states.add(full());
        states.add(with(full(), "run 100", "run 100", "run 100", "run 100"));
        for (String[] state : states) {
            callsIn(state);
        }
    }

    private static String[] with(String[] before, String... more) {
        List<String> all = new ArrayList<>(List.of(before));
        all.addAll(List.of(more));
        return all.toArray(new String[0]);
    }

    private static String[] full() {
        List<String> calls = new ArrayList<>();
        for (int task = 0; task < 5; task++) {
            calls.add("addTask " + (2 * task + 1) + " 10 " + (task + 3) + " " + task);
            for (int k = 0; k < 6; k++) {
                calls.add("addSegment " + task + " " + (k % 5 - 1) + " " + (1 + (k + task) % 2));
            }
        }
        calls.add("setServer 6 3 10");
        for (int k = 0; k < 12; k++) {
            calls.add("request " + 20 * k + " " + (1 + k % 9));
        }
        calls.add("setPolicy 1");
        calls.add("snapshot");
        calls.add("type " + "~".repeat(60));
        return calls.toArray(new String[0]);
    }

    private static void callsIn(String[] state) {
        CeilingWorkbench x = made(state);
        Model model = new Model();
        Calls.make(model, state);
        String before = View.of(x);
        for (String[] method : METHODS) {
            for (String call : calls(method, 1, method[0])) {
                Object answer = Calls.answer(x, call);
                Check.due(call, answer, Calls.answer(model, call));
                if (isException(answer)) {
                    Check.due(call + " leaves the state", View.of(x), before);
                } else {
                    x = made(state);
                    model = new Model();
                    Calls.make(model, state);
                }
            }
        }
        sameLater(state);
    }

    /** What cannot be asked, such as the buffer and the snapshot, would show in what is done later. */
    private static void sameLater(String[] state) {
        CeilingWorkbench x = made(state);
        CeilingWorkbench y = made(state);
        for (String[] method : METHODS) {
            for (String call : calls(method, 1, method[0])) {
                if (isException(Calls.answer(y, call))) {
                    Calls.answer(x, call);
                } else {
                    y = made(state);
                }
            }
        }
        y = made(state);
        String[] later = {"append 112", "append 32", "configure", "errorPosition", "run 50", "restore", "run 60",
            "rewind", "run 100"};
        for (String call : later) {
            Check.due("later " + call, Calls.answer(x, call), Calls.answer(y, call));
            Check.due("after " + call, View.of(x), View.of(y));
        }
    }

    private static CeilingWorkbench made(String[] state) {
        CeilingWorkbench x = new CeilingWorkbench();
        Calls.make(x, state);
        return x;
    }

    private static boolean isException(Object answer) {
        return answer instanceof String;
    }

    /** All combinations of the numbers from one parameter on, behind a beginning of the call. */
    private static List<String> calls(String[] method, int parameter, String beginning) {
        if (parameter == method.length) {
            return List.of(beginning);
        }
        List<String> calls = new ArrayList<>();
        for (String number : method[parameter].strip().split(" ")) {
            calls.addAll(calls(method, parameter + 1, beginning + " " + number));
        }
        return calls;
    }
}
