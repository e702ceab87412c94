import java.util.ArrayList;
import java.util.List;
import java.util.NoSuchElementException;
import java.util.regex.Matcher;
import java.util.regex.Pattern;

/**
 * The document once more, written as another program: it keeps only what was configured and the policy of
 * each unit, and makes all units anew whenever it is asked.
 */
final class Model {
    private static final String N = "(0|[1-9][0-9]{0,2})";
    private static final Pattern TEXT = Pattern.compile("(task) N N N N|(server) N N N|(request) N N"
        .replace("N", N) + "|(segment) N (none|N) N".replace("N", N) + "|(policy) (continue|abort|skip)");

    private record Segment(int resource, int length) {
    }

    private record Server(int priority, int budget, int period) {
    }

    private record Request(int time, int length) {
    }

    private static final class Task {
        int priority;
        int period;
        int deadline;
        int offset;
        List<Segment> segments = new ArrayList<>();

        int demand() {
            int sum = 0;
            for (Segment s : segments) {
                sum += s.length();
            }
            return sum;
        }

        Task copy() {
            Task t = new Task();
            t.priority = priority;
            t.period = period;
            t.deadline = deadline;
            t.offset = offset;
            t.segments = new ArrayList<>(segments);
            return t;
        }
    }

    /** What a snapshot takes. */
    private static final class Kept {
        List<Task> tasks = new ArrayList<>();
        Server server;
        List<Request> requests = new ArrayList<>();
        int policy;
        List<Integer> unitPolicies = new ArrayList<>();

        Kept copy() {
            Kept k = new Kept();
            for (Task t : tasks) {
                k.tasks.add(t.copy());
            }
            k.server = server;
            k.requests = new ArrayList<>(requests);
            k.policy = policy;
            k.unitPolicies = new ArrayList<>(unitPolicies);
            return k;
        }
    }

    private static final class Job {
        final int task;
        final int release;
        int done;
        boolean gone;

        Job(int task, int release) {
            this.task = task;
            this.release = release;
        }
    }

    /** All units from time 0 to the clock. */
    private final class Story {
        final List<Job> jobs = new ArrayList<>();
        final List<Integer> ran = new ArrayList<>();
        final int[][] results = new int[5][6];
        final int[] sums = new int[5];
        final int[] served = new int[12];
        final int[] responses = new int[12];
        final int[] increases = new int[1000];
        final boolean[] skip = new boolean[5];
        int balance = now.server == null ? 0 : now.server.budget();
        int busySince = -1;
        int busyUnits;
        int finishedJobs;
        Job last;

        Story() {
            for (int t = 0; t < now.unitPolicies.size(); t++) {
                unit(t, now.unitPolicies.get(t));
            }
        }

        void unit(int t, int policy) {
            balance += increases[t];
            increases[t] = 0;
            release(t);
            miss(t, policy);
            Job best = null;
            int bestRank = 0;
            for (int i = 0; i < now.tasks.size(); i++) {
                Job j = first(i);
                int rank = j == null ? 0 : 2 * active(j) + (held(j) >= 0 ? 1 : 0);
                if (rank > bestRank) {
                    best = j;
                    bestRank = rank;
                }
            }
            int q = served(t);
            boolean server = now.server != null && q >= 0 && balance > 0 && 2 * now.server.priority() > bestRank;
            Job runs = server ? null : best;
            if (last != null && !last.gone && last != runs) {
                results[last.task][4]++;
            }
            last = runs;
            ran.add(server ? 9 : runs == null ? -1 : runs.task);
            if (server) {
                serve(q, t);
            } else if (runs != null) {
                work(runs, t);
            }
            if (busySince >= 0 && (served(t) < 0 || balance == 0)) {
                increases[Math.max(busySince + now.server.period(), t + 1)] += busyUnits;
                busySince = -1;
            }
        }

        void release(int t) {
            for (int i = 0; i < now.tasks.size(); i++) {
                Task task = now.tasks.get(i);
                if (task.segments.isEmpty() || t < task.offset || (t - task.offset) % task.period != 0) {
                    continue;
                }
                if (skip[i]) {
                    skip[i] = false;
                    results[i][3]++;
                } else {
                    jobs.add(new Job(i, t));
                }
            }
        }

        void miss(int t, int policy) {
            for (Job j : jobs) {
                if (!j.gone && j.release + now.tasks.get(j.task).deadline == t) {
                    results[j.task][1]++;
                    if (policy == 1) {
                        j.gone = true;
                        results[j.task][2]++;
                    } else if (policy == 2) {
                        skip[j.task] = true;
                    }
                }
            }
        }

        void serve(int q, int t) {
            if (busySince < 0) {
                busySince = t;
                busyUnits = 0;
            }
            busyUnits++;
            balance--;
            served[q]++;
            if (served[q] == now.requests.get(q).length()) {
                responses[q] = t + 1 - now.requests.get(q).time();
            }
        }

        void work(Job j, int t) {
            j.done++;
            if (j.done == now.tasks.get(j.task).demand()) {
                j.gone = true;
                int response = t + 1 - j.release;
                results[j.task][0]++;
                results[j.task][5] = Math.max(results[j.task][5], response);
                sums[j.task] += response;
                finishedJobs++;
            }
        }

        /** The request to be served at a time, or -1. */
        int served(int t) {
            int best = -1;
            for (int q = now.requests.size() - 1; q >= 0; q--) {
                Request r = now.requests.get(q);
                if (r.time() <= t && served[q] < r.length()
                        && (best < 0 || r.time() <= now.requests.get(best).time())) {
                    best = q;
                }
            }
            return best;
        }

        Job first(int i) {
            for (Job j : jobs) {
                if (j.task == i && !j.gone) {
                    return j;
                }
            }
            return null;
        }

        int held(Job j) {
            int before = 0;
            for (Segment s : now.tasks.get(j.task).segments) {
                if (j.done > before && j.done < before + s.length()) {
                    return s.resource();
                }
                before += s.length();
            }
            return -1;
        }

        int active(Job j) {
            int own = now.tasks.get(j.task).priority;
            int resource = held(j);
            return resource < 0 ? own : Math.max(own, ceilingOf(resource));
        }
    }

    private Kept now = new Kept();
    private Kept snapshot;
    private String text = "";
    private Integer error;
    private Story story;

    private Story story() {
        if (story == null) {
            story = new Story();
        }
        return story;
    }

    private static void argument(boolean good) {
        if (!good) {
            throw new IllegalArgumentException();
        }
    }

    private static void state(boolean good) {
        if (!good) {
            throw new IllegalStateException();
        }
    }

    private static void index(boolean good) {
        if (!good) {
            throw new IndexOutOfBoundsException();
        }
    }

    private static void element(boolean good) {
        if (!good) {
            throw new NoSuchElementException();
        }
    }

    private static void free(boolean good) {
        if (!good) {
            throw new UnsupportedOperationException();
        }
    }

    private static boolean in(int value, int least, int greatest) {
        return least <= value && value <= greatest;
    }

    private Task at(int task) {
        index(in(task, 0, now.tasks.size() - 1));
        return now.tasks.get(task);
    }

    private boolean noTaskHas(int priority) {
        return now.tasks.stream().noneMatch(t -> t.priority == priority);
    }

    int clear() {
        int count = now.tasks.size();
        now = new Kept();
        story = null;
        return count;
    }

    int addTask(int priority, int period, int deadline, int offset) {
        argument(in(priority, 1, 9) && in(period, 1, 60) && in(deadline, 1, period) && in(offset, 0, 60));
        state(clock() == 0 && now.tasks.size() < 5);
        free(noTaskHas(priority) && (now.server == null || now.server.priority() != priority));
        Task t = new Task();
        t.priority = priority;
        t.period = period;
        t.deadline = deadline;
        t.offset = offset;
        now.tasks.add(t);
        story = null;
        return now.tasks.size() - 1;
    }

    int addSegment(int task, int resource, int length) {
        Task t = at(task);
        argument(in(resource, -1, 3) && in(length, 1, 9));
        state(clock() == 0 && t.segments.size() < 6);
        t.segments.add(new Segment(resource, length));
        story = null;
        return t.segments.size();
    }

    boolean setServer(int priority, int budget, int period) {
        argument(in(priority, 1, 9) && in(budget, 1, 9) && in(period, 1, 60));
        state(clock() == 0);
        free(noTaskHas(priority));
        boolean before = now.server != null;
        now.server = new Server(priority, budget, period);
        story = null;
        return before;
    }

    int request(int time, int length) {
        argument(in(time, Math.max(0, clock()), 300) && in(length, 1, 9));
        state(now.requests.size() < 12);
        now.requests.add(new Request(time, length));
        story = null;
        return now.requests.size() - 1;
    }

    int setPolicy(int policy) {
        argument(in(policy, 0, 2));
        int before = now.policy;
        now.policy = policy;
        return before;
    }

    int append(char character) {
        argument(in(character, 32, 126));
        state(text.length() < 60);
        text += character;
        return text.length();
    }

    int configure() {
        String command = text;
        text = "";
        Matcher m = TEXT.matcher(command);
        if (!m.matches()) {
            int viable = command.length();
            while (!canGoOn(command.substring(0, viable))) {
                viable--;
            }
            error = viable;
            throw new IllegalArgumentException();
        }
        try {
            return perform(command.split(" "));
        } catch (RuntimeException e) {
            throw new IllegalStateException();
        }
    }

    private static boolean canGoOn(String beginning) {
        Matcher m = TEXT.matcher(beginning);
        return m.matches() || m.hitEnd();
    }

    private int perform(String[] words) {
        int[] n = new int[5];
        for (int k = 1; k < words.length; k++) {
            n[k] = words[k].equals("none") ? -1 : words[0].equals("policy") ? 0 : Integer.parseInt(words[k]);
        }
        return switch (words[0]) {
            case "task" -> addTask(n[1], n[2], n[3], n[4]);
            case "server" -> setServer(n[1], n[2], n[3]) ? 1 : 0;
            case "request" -> request(n[1], n[2]);
            case "segment" -> addSegment(n[1], n[2], n[3]);
            default -> setPolicy(List.of("continue", "abort", "skip").indexOf(words[1]));
        };
    }

    int errorPosition() {
        element(error != null);
        return error;
    }

    int taskCount() {
        return now.tasks.size();
    }

    int task(int task, int what) {
        Task t = at(task);
        argument(in(what, 0, 5));
        return new int[] {t.priority, t.period, t.deadline, t.offset, t.segments.size(), t.demand()}[what];
    }

    private int ceilingOf(int resource) {
        int greatest = 0;
        for (Task t : now.tasks) {
            if (t.segments.stream().anyMatch(s -> s.resource() == resource)) {
                greatest = Math.max(greatest, t.priority);
            }
        }
        return greatest;
    }

    int ceiling(int resource) {
        index(in(resource, 0, 3));
        return ceilingOf(resource);
    }

    int blocking(int task) {
        Task own = at(task);
        int greatest = 0;
        for (Task t : now.tasks) {
            for (Segment s : t.segments) {
                if (t.priority < own.priority && s.resource() >= 0 && ceilingOf(s.resource()) >= own.priority) {
                    greatest = Math.max(greatest, s.length() - 1);
                }
            }
        }
        return greatest;
    }

    /** Period and demand of all that is more urgent than a task, the most urgent first. */
    private List<int[]> above(Task own) {
        List<int[]> above = new ArrayList<>();
        for (int priority = 9; priority > own.priority; priority--) {
            for (Task t : now.tasks) {
                if (t.priority == priority) {
                    above.add(new int[] {t.period, t.demand()});
                }
            }
            if (now.server != null && now.server.priority() == priority) {
                above.add(new int[] {now.server.period(), now.server.budget()});
            }
        }
        return above;
    }

    int bound(int task) {
        Task own = at(task);
        state(!own.segments.isEmpty());
        int blocking = blocking(task);
        List<int[]> above = above(own);
        for (int bound = 1; bound <= 1000; bound++) {
            int need = blocking + own.demand();
            for (int[] a : above) {
                need += a[1] * (bound / a[0] + (bound % a[0] == 0 ? 0 : 1));
            }
            if (need == bound) {
                return bound;
            }
        }
        throw new NoSuchElementException();
    }

    int witness(int task) {
        Task own = at(task);
        state(!own.segments.isEmpty());
        int blocking = blocking(task);
        List<int[]> above = above(own);
        int[] left = new int[above.size() + 1];
        left[above.size()] = own.demand();
        for (int t = 0; t < 1000; t++) {
            for (int k = 0; k < above.size(); k++) {
                left[k] += t % above.get(k)[0] == 0 ? above.get(k)[1] : 0;
            }
            for (int k = 0; k < left.length && t >= blocking; k++) {
                if (left[k] > 0) {
                    left[k]--;
                    break;
                }
            }
            if (left[above.size()] == 0) {
                return t + 1;
            }
        }
        throw new NoSuchElementException();
    }

    boolean isSchedulable() {
        for (int i = 0; i < now.tasks.size(); i++) {
            int task = i;
            if (!now.tasks.get(i).segments.isEmpty()
                    && !(Check.answer(() -> bound(task)) instanceof Integer b && b <= now.tasks.get(i).deadline)) {
                return false;
            }
        }
        return true;
    }

    double load() {
        double load = 0;
        for (Task t : now.tasks) {
            load = load + (double) t.demand() / (double) t.period;
        }
        return now.server == null ? load : load + (double) now.server.budget() / (double) now.server.period();
    }

    double hyperbolicLoad() {
        double load = 1;
        for (Task t : now.tasks) {
            load = load * ((double) t.demand() / (double) t.period + 1);
        }
        return now.server == null ? load : load * ((double) now.server.budget() / (double) now.server.period() + 1);
    }

    int run(int units) {
        argument(in(units, 1, 100));
        state(clock() + units <= 400);
        int before = story().finishedJobs;
        for (int k = 0; k < units; k++) {
            now.unitPolicies.add(now.policy);
        }
        story = null;
        return story().finishedJobs - before;
    }

    int rewind() {
        int before = clock();
        now.unitPolicies.clear();
        story = null;
        return before;
    }

    int clock() {
        return now.unitPolicies.size();
    }

    int ranAt(int time) {
        index(in(time, 0, clock() - 1));
        return story().ran.get(time);
    }

    int pending(int task) {
        at(task);
        return (int) story().jobs.stream().filter(j -> j.task == task && !j.gone).count();
    }

    int activePriority(int task) {
        at(task);
        Job j = story().first(task);
        element(j != null);
        return story().active(j);
    }

    int holder(int resource) {
        index(in(resource, 0, 3));
        for (Job j : story().jobs) {
            if (!j.gone && story().held(j) == resource) {
                return j.task;
            }
        }
        return -1;
    }

    int result(int task, int what) {
        at(task);
        argument(in(what, 0, 5));
        return story().results[task][what];
    }

    float averageResponse(int task) {
        at(task);
        if (story().results[task][0] == 0) {
            throw new ArithmeticException();
        }
        return (float) story().sums[task] / (float) story().results[task][0];
    }

    int balance() {
        state(now.server != null);
        return story().balance;
    }

    int nextReplenishment() {
        state(now.server != null);
        for (int t = 0; t < 1000; t++) {
            if (story().increases[t] > 0) {
                return t;
            }
        }
        throw new NoSuchElementException();
    }

    int requestResponse(int request) {
        index(in(request, 0, now.requests.size() - 1));
        state(story().responses[request] > 0);
        return story().responses[request];
    }

    double utilization() {
        if (clock() == 0) {
            throw new ArithmeticException();
        }
        return (double) story().ran.stream().filter(r -> r >= 0).count() / (double) clock();
    }

    int snapshot() {
        snapshot = now.copy();
        return clock();
    }

    int restore() {
        state(snapshot != null);
        now = snapshot.copy();
        story = null;
        return clock();
    }
}
