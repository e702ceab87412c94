/** Everything of a workbench that can be asked without changing it. */
final class View {
    private View() {
    }

    static String of(CeilingWorkbench x) {
        StringBuilder text = new StringBuilder();
        whole(x, text);
        for (int task = 0; task < 5; task++) {
            task(x, task, text);
        }
        for (int resource = 0; resource < 4; resource++) {
            int r = resource;
            show(text, "c", () -> x.ceiling(r));
            show(text, "h", () -> x.holder(r));
        }
        for (int request = 0; request < 12; request++) {
            int q = request;
            show(text, "q", () -> x.requestResponse(q));
        }
        return text.append(Check.trace(x)).toString();
    }

    private static void whole(CeilingWorkbench x, StringBuilder text) {
        show(text, "tasks", x::taskCount);
        show(text, "clock", x::clock);
        show(text, "error", x::errorPosition);
        show(text, "schedulable", x::isSchedulable);
        show(text, "load", x::load);
        show(text, "hyperbolic", x::hyperbolicLoad);
        show(text, "balance", x::balance);
        show(text, "next", x::nextReplenishment);
        show(text, "utilization", x::utilization);
        show(text, "policy", () -> policy(x));
    }

    // The policy is told only when another one is set, so it is put back at once.
    private static int policy(CeilingWorkbench x) {
        int policy = x.setPolicy(0);
        x.setPolicy(policy);
        return policy;
    }

    private static void task(CeilingWorkbench x, int task, StringBuilder text) {
        for (int k = 0; k < 6; k++) {
            int what = k;
            show(text, "t", () -> x.task(task, what));
            show(text, "r", () -> x.result(task, what));
        }
        show(text, "b", () -> x.blocking(task));
        show(text, "R", () -> x.bound(task));
        show(text, "w", () -> x.witness(task));
        show(text, "p", () -> x.pending(task));
        show(text, "a", () -> x.activePriority(task));
        show(text, "v", () -> x.averageResponse(task));
    }

    private static void show(StringBuilder text, String name, Check.Call call) {
        text.append(name).append('=').append(Check.answer(call)).append('\n');
    }
}
