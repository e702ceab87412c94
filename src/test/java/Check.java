import java.util.Objects;

/** What every test uses: it compares answers with those that are due, and counts. */
final class Check {
    interface Call {
        Object make();
    }

    private static int asked = 0;
    private static int wrong = 0;
    private static String heading = "";

    private Check() {
    }

    static int asked() {
        return asked;
    }

    /** What the following checks are about is told with those that fail. */
    static void under(String newHeading) {
        heading = newHeading.isEmpty() ? "" : "[" + newHeading + "] ";
    }

    static void due(String call, Object got, Object want) {
        asked++;
        if (!Objects.equals(got, want)) {
            wrong++;
            System.out.println(heading + call + " " + difference(String.valueOf(got), String.valueOf(want)));
        }
    }

    /** Views have many lines, of which only the first that differs is told. */
    private static String difference(String got, String want) {
        String[] gotLines = got.split("\n");
        String[] wantLines = want.split("\n");
        int line = 0;
        while (line < gotLines.length - 1 && line < wantLines.length - 1 && gotLines[line].equals(wantLines[line])) {
            line++;
        }
        return "answered " + gotLines[line] + ", due is " + wantLines[line];
    }

    /** The answer of a call, or the name of the exception that it throws. */
    static Object answer(Call call) {
        try {
            return call.make();
        } catch (RuntimeException e) {
            return e.getClass().getSimpleName();
        }
    }

    /** The call throws exactly this exception, and everything that can be seen stays as it was. */
    static void refused(CeilingWorkbench x, String call, Class<? extends RuntimeException> want, Call made) {
        String before = View.of(x);
        due(call, answer(made), want.getSimpleName());
        due(call + " leaves the state", View.of(x), before);
    }

    /** In this one, deadlines are missed, jobs hold resources and the server is busy most of the time. */
    static CeilingWorkbench busyBench(int policy) {
        CeilingWorkbench x = new CeilingWorkbench();
        x.addTask(8, 9, 2, 3);
        x.addTask(4, 7, 3, 1);
        x.addTask(2, 11, 6, 0);
        x.addSegment(0, 0, 3);
        x.addSegment(1, 1, 2);
        x.addSegment(1, -1, 2);
        x.addSegment(2, 0, 3);
        x.addSegment(2, 1, 2);
        x.setServer(6, 2, 5);
        for (int time = 0; time < 40; time += 8) {
            x.request(time, 3);
        }
        x.setPolicy(policy);
        return x;
    }

    static CeilingWorkbench typed(CeilingWorkbench x, String text) {
        for (int k = 0; k < text.length(); k++) {
            x.append(text.charAt(k));
        }
        return x;
    }

    static Object configured(CeilingWorkbench x, String text) {
        typed(x, text);
        return answer(x::configure);
    }

    /** What ran from the unit of time 0 on, a sign each: the task, S for the server, a dot for nothing. */
    static String trace(CeilingWorkbench x) {
        StringBuilder text = new StringBuilder();
        for (int time = 0; time < x.clock(); time++) {
            int ran = x.ranAt(time);
            text.append(ran == 9 ? "S" : ran == -1 ? "." : Integer.toString(ran));
        }
        return text.toString();
    }

    static String results(CeilingWorkbench x, int task) {
        StringBuilder text = new StringBuilder();
        for (int what = 0; what < 6; what++) {
            text.append(what == 0 ? "" : " ").append(x.result(task, what));
        }
        return text.toString();
    }

    static void end(String name) {
        System.out.println(name + ": " + asked + " answers, " + wrong + " not as due");
        if (wrong != 0 || asked == 0) {
            System.exit(1);
        }
    }
}
