/** Everything that can be asked without changing it, of a workbench or of its model, as one text. */
final class View {
    private final Object asked;
    private final StringBuilder text = new StringBuilder();

    private View(Object asked) {
        this.asked = asked;
    }

    static String of(Object asked) {
        View view = new View(asked);
        view.whole();
        for (int task = 0; task < 5; task++) {
            view.task(task);
        }
        for (int resource = 0; resource < 4; resource++) {
            view.show("ceiling", resource);
            view.show("holder", resource);
        }
        for (int request = 0; request < 12; request++) {
            view.show("requestResponse", request);
        }
        return view.text.toString();
    }

    private void whole() {
        String[] names = {"taskCount", "clock", "errorPosition", "isSchedulable", "load", "hyperbolicLoad", "balance",
            "nextReplenishment", "utilization"};
        for (String name : names) {
            show(name);
        }
        // The policy is told only when another one is set, so it is put back at once.
        Object policy = show("setPolicy", 0);
        show("setPolicy", (Integer) policy);
        int clock = (Integer) show("clock");
        for (int time = 0; time < clock; time++) {
            show("ranAt", time);
        }
    }

    private void task(int task) {
        for (int what = 0; what < 6; what++) {
            show("task", task, what);
            show("result", task, what);
        }
        String[] names = {"blocking", "bound", "witness", "pending", "activePriority", "averageResponse"};
        for (String name : names) {
            show(name, task);
        }
    }

    private Object show(String name, Integer... numbers) {
        Object answer = Calls.answer(asked, name, numbers);
        text.append(name);
        for (int number : numbers) {
            text.append(' ').append(number);
        }
        text.append(": ").append(answer).append('\n');
        return answer;
    }
}
