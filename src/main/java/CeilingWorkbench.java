import java.util.NoSuchElementException;

/**
 * A workbench for real-time scheduling with fixed priorities on one processor.
 * The document's promises are the contract; this file keeps to LANGUAGE.md.
 */
public final class CeilingWorkbench {
    private static final int NONE = -1;
    private static final int SERVER = 9;

    private static final int MAX_TASKS = 5;
    private static final int MAX_SEGMENTS = 6;
    private static final int MAX_RESOURCES = 4;
    private static final int MAX_REQUESTS = 12;
    private static final int MAX_PRIORITY = 9;
    private static final int MAX_PERIOD = 60;
    private static final int MAX_OFFSET = 60;
    private static final int MAX_LENGTH = 9;
    private static final int MAX_BUDGET = 9;
    private static final int MAX_REQUEST_TIME = 300;
    private static final int MAX_UNITS = 100;
    private static final int MAX_CLOCK = 400;
    private static final int MAX_BOUND = 1000;
    private static final int MAX_SIGNS = 60;
    private static final int MAX_NUMBERS = 4;
    private static final int MAX_DIGITS = 3;

    private static final int ABORT = 1;
    private static final int SKIP = 2;

    private static final int PROPERTIES = 6;
    private static final int RESULTS = 6;
    private static final int FINISHED = 0;
    private static final int MISSED = 1;
    private static final int REMOVED = 2;
    private static final int SKIPPED = 3;
    private static final int PREEMPTED = 4;
    private static final int GREATEST_RESPONSE = 5;

    // Every answer of a configuring command is at least 0, so a negative one can tell why it is refused.
    private static final int BAD_INDEX = -1;
    private static final int BAD_ARGUMENT = -2;
    private static final int BAD_STATE = -3;
    private static final int PRIORITY_TAKEN = -4;

    private static final int TASK_FORM = 0;
    private static final int SERVER_FORM = 1;
    private static final int REQUEST_FORM = 2;
    private static final int SEGMENT_FORM = 3;
    private static final int FREE_SEGMENT_FORM = 4;
    private static final int CONTINUE_FORM = 5;
    private static final int ABORT_FORM = 6;
    private static final int SKIP_FORM = 7;
    private static final int FORMS = 8;
    private static final char NUMBER = '#';

    private final Bench bench;
    private final Bench kept;
    private final Reader reader;
    private boolean hasSnapshot;
    private int lastError;

    public CeilingWorkbench() {
        bench = new Bench();
        kept = new Bench();
        reader = new Reader();
        lastError = NONE;
    }

    public int clear() {
        return bench.removeAll();
    }

    public int addTask(int priority, int period, int deadline, int offset)
            throws IllegalArgumentException, IllegalStateException, UnsupportedOperationException {
        return accepted(bench.putTask(priority, period, deadline, offset));
    }

    public int addSegment(int task, int resource, int length)
            throws IndexOutOfBoundsException, IllegalArgumentException, IllegalStateException {
        return accepted(bench.putSegment(task, resource, length));
    }

    public boolean setServer(int priority, int budget, int period)
            throws IllegalArgumentException, IllegalStateException, UnsupportedOperationException {
        return accepted(bench.putServer(priority, budget, period)) == 1;
    }

    public int request(int time, int length) throws IllegalArgumentException, IllegalStateException {
        return accepted(bench.putRequest(time, length));
    }

    public int setPolicy(int policy) throws IllegalArgumentException {
        return accepted(bench.putPolicy(policy));
    }

    public int append(char character) throws IllegalArgumentException, IllegalStateException {
        if (!isWithin(character, 32, 126)) {
            throw new IllegalArgumentException("the code is not from 32 to 126");
        }
        if (reader.isFull()) {
            throw new IllegalStateException("the buffer is full");
        }
        return reader.put(character);
    }

    public int configure() throws IllegalArgumentException, IllegalStateException {
        int form = reader.takeForm();
        if (form == NONE) {
            lastError = reader.reach;
            throw new IllegalArgumentException("the text is malformed");
        }
        int answer = perform(form);
        if (answer < 0) {
            throw new IllegalStateException("the command is refused");
        }
        return answer;
    }

    public int errorPosition() throws NoSuchElementException {
        if (lastError == NONE) {
            throw new NoSuchElementException("no text was malformed");
        }
        return lastError;
    }

    public int taskCount() {
        return bench.taskCount;
    }

    public int task(int task, int what) throws IndexOutOfBoundsException, IllegalArgumentException {
        Task chosen = taskAt(task);
        if (!isWithin(what, 0, PROPERTIES - 1)) {
            throw new IllegalArgumentException("there is no such property");
        }
        return chosen.property(what);
    }

    public int ceiling(int resource) throws IndexOutOfBoundsException {
        return bench.ceilings[checkedResource(resource)];
    }

    public int blocking(int task) throws IndexOutOfBoundsException {
        return Analysis.blockingOf(bench, taskAt(task));
    }

    public int bound(int task) throws IndexOutOfBoundsException, IllegalStateException, NoSuchElementException {
        return found(Analysis.boundOf(bench, taskWithSegments(task)));
    }

    public int witness(int task) throws IndexOutOfBoundsException, IllegalStateException, NoSuchElementException {
        return found(Analysis.witnessOf(bench, taskWithSegments(task)));
    }

    public boolean isSchedulable() {
        return Analysis.meetsDeadlines(bench);
    }

    public double load() {
        return Analysis.loadOf(bench);
    }

    public double hyperbolicLoad() {
        return Analysis.hyperbolicLoadOf(bench);
    }

    public int run(int units) throws IllegalArgumentException, IllegalStateException {
        if (!isWithin(units, 1, MAX_UNITS)) {
            throw new IllegalArgumentException("the number of units is out of range");
        }
        if (bench.clock + units > MAX_CLOCK) {
            throw new IllegalStateException("the clock would become too great");
        }
        return bench.makeUnits(units);
    }

    public int rewind() {
        return bench.startAgain();
    }

    public int clock() {
        return bench.clock;
    }

    public int ranAt(int time) throws IndexOutOfBoundsException {
        if (!isWithin(time, 0, bench.clock - 1)) {
            throw new IndexOutOfBoundsException("the unit has not been made");
        }
        return bench.ran[time];
    }

    public int pending(int task) throws IndexOutOfBoundsException {
        return taskAt(task).jobs.size();
    }

    public int activePriority(int task) throws IndexOutOfBoundsException, NoSuchElementException {
        Task chosen = taskAt(task);
        if (chosen.jobs.isEmpty()) {
            throw new NoSuchElementException("there is no unfinished job");
        }
        return bench.urgencyOf(chosen);
    }

    public int holder(int resource) throws IndexOutOfBoundsException {
        return bench.holderOf(checkedResource(resource));
    }

    public int result(int task, int what) throws IndexOutOfBoundsException, IllegalArgumentException {
        Task chosen = taskAt(task);
        if (!isWithin(what, 0, RESULTS - 1)) {
            throw new IllegalArgumentException("there is no such result");
        }
        return chosen.results[what];
    }

    public float averageResponse(int task) throws IndexOutOfBoundsException, ArithmeticException {
        Task chosen = taskAt(task);
        if (chosen.results[FINISHED] == 0) {
            throw new ArithmeticException("no job is finished");
        }
        return (float) chosen.responseSum / (float) chosen.results[FINISHED];
    }

    public int balance() throws IllegalStateException {
        return presentServer().balance;
    }

    public int nextReplenishment() throws IllegalStateException, NoSuchElementException {
        return found(presentServer().nextPlan());
    }

    public int requestResponse(int request) throws IndexOutOfBoundsException, IllegalStateException {
        if (!isWithin(request, 0, bench.requests.count - 1)) {
            throw new IndexOutOfBoundsException("there is no such request");
        }
        int response = bench.requests.responses[request];
        if (response == NONE) {
            throw new IllegalStateException("the request is not finished");
        }
        return response;
    }

    public double utilization() throws ArithmeticException {
        if (bench.clock == 0) {
            throw new ArithmeticException("no unit has been made");
        }
        return (double) bench.usedUnits() / (double) bench.clock;
    }

    public int snapshot() {
        kept.copyFrom(bench);
        hasSnapshot = true;
        return bench.clock;
    }

    public int restore() throws IllegalStateException {
        if (!hasSnapshot) {
            throw new IllegalStateException("there is no snapshot");
        }
        bench.copyFrom(kept);
        return bench.clock;
    }

    private int perform(int form) {
        int first = reader.number(0);
        int second = reader.number(1);
        int third = reader.number(2);
        switch (form) {
            case TASK_FORM:
                return bench.putTask(first, second, third, reader.number(3));
            case SERVER_FORM:
                return bench.putServer(first, second, third);
            case REQUEST_FORM:
                return bench.putRequest(first, second);
            case SEGMENT_FORM:
                return bench.putSegment(first, second, third);
            case FREE_SEGMENT_FORM:
                return bench.putSegment(first, NONE, second);
            default:
                return bench.putPolicy(form - CONTINUE_FORM);
        }
    }

    private static int accepted(int answer) {
        switch (answer) {
            case BAD_INDEX:
                throw new IndexOutOfBoundsException("there is no such task");
            case BAD_ARGUMENT:
                throw new IllegalArgumentException("a number is out of range");
            case BAD_STATE:
                throw new IllegalStateException("this cannot be added now");
            case PRIORITY_TAKEN:
                throw new UnsupportedOperationException("the priority is taken");
            default:
                return answer;
        }
    }

    private static int found(int answer) {
        if (answer == NONE) {
            throw new NoSuchElementException("there is no such time");
        }
        return answer;
    }

    private static int checkedResource(int resource) {
        if (!isWithin(resource, 0, MAX_RESOURCES - 1)) {
            throw new IndexOutOfBoundsException("there is no such resource");
        }
        return resource;
    }

    private Task taskAt(int task) {
        if (!bench.hasTask(task)) {
            throw new IndexOutOfBoundsException("there is no such task");
        }
        return bench.tasks[task];
    }

    private Task taskWithSegments(int task) {
        Task chosen = taskAt(task);
        if (chosen.segmentCount == 0) {
            throw new IllegalStateException("the task has no segments");
        }
        return chosen;
    }

    private Server presentServer() {
        if (!bench.server.present) {
            throw new IllegalStateException("there is no server");
        }
        return bench.server;
    }

    private static boolean isWithin(int value, int least, int greatest) {
        return value >= least && value <= greatest;
    }

    /** The times at which the unfinished jobs of a task were released, oldest first. */
    private static final class Jobs {
        // A task releases at most one job a unit, so the row need not wrap round.
        private final int[] releases = new int[MAX_CLOCK];
        private int first;
        private int end;

        private void removeAll() {
            first = 0;
            end = 0;
        }

        private boolean isEmpty() {
            return first == end;
        }

        private int size() {
            return end - first;
        }

        private void add(int release) {
            if (end < releases.length) {
                releases[end] = release;
                end++;
            }
        }

        private int firstRelease() {
            return first < end ? releases[first] : NONE;
        }

        private void removeFirst() {
            if (first < end) {
                first++;
            }
        }

        private int placeOf(int release) {
            // A job that is due is among the newest, so the search from the end is short.
            for (int k = end - 1; k >= first && releases[k] >= release; k--) {
                if (releases[k] == release) {
                    return k - first;
                }
            }
            return NONE;
        }

        private void removeAt(int place) {
            if (!isWithin(place, 0, size() - 1)) {
                return;
            }
            end--;
            for (int k = first + place; k < end; k++) {
                releases[k] = releases[k + 1];
            }
        }

        private void copyFrom(Jobs other) {
            System.arraycopy(other.releases, 0, releases, 0, releases.length);
            first = other.first;
            end = other.end;
        }
    }

    /** A task with its jobs and what was counted for it. */
    private static final class Task {
        private final int[] resources = new int[MAX_SEGMENTS];
        private final int[] lengths = new int[MAX_SEGMENTS];
        private final Jobs jobs = new Jobs();
        private final int[] results = new int[RESULTS];
        private int priority;
        private int period;
        private int deadline;
        private int offset;
        private int segmentCount;
        private int demand;
        private int nextRelease;
        private boolean mustSkip;
        // How far the first unfinished job is; only that one can have run.
        private int segment;
        private int unitsOfSegment;
        private int responseSum;

        private void begin(int newPriority, int newPeriod, int newDeadline, int newOffset) {
            priority = newPriority;
            period = newPeriod;
            deadline = newDeadline;
            offset = newOffset;
            segmentCount = 0;
            demand = 0;
            startAgain();
        }

        private void startAgain() {
            jobs.removeAll();
            nextRelease = offset;
            mustSkip = false;
            segment = 0;
            unitsOfSegment = 0;
            responseSum = 0;
            for (int k = 0; k < results.length; k++) {
                results[k] = 0;
            }
        }

        private void addPart(int resource, int length) {
            if (segmentCount < MAX_SEGMENTS) {
                resources[segmentCount] = resource;
                lengths[segmentCount] = length;
                segmentCount++;
                demand += length;
            }
        }

        private int property(int what) {
            switch (what) {
                case 0:
                    return priority;
                case 1:
                    return period;
                case 2:
                    return deadline;
                case 3:
                    return offset;
                case 4:
                    return segmentCount;
                default:
                    return demand;
            }
        }

        private void releaseAt(int time) {
            if (segmentCount == 0 || time != nextRelease) {
                return;
            }
            nextRelease += period;
            if (mustSkip) {
                mustSkip = false;
                results[SKIPPED]++;
            } else {
                jobs.add(time);
            }
        }

        private void missAt(int time, int policy) {
            int place = jobs.placeOf(time - deadline);
            if (place == NONE) {
                return;
            }
            results[MISSED]++;
            if (policy == ABORT) {
                removeJob(place);
            } else if (policy == SKIP) {
                mustSkip = true;
            }
        }

        private void removeJob(int place) {
            // Under an earlier policy an older job may have stayed; its progress must not be lost.
            if (place == 0) {
                segment = 0;
                unitsOfSegment = 0;
            }
            jobs.removeAt(place);
            results[REMOVED]++;
        }

        private boolean hasStartedJob() {
            return segment > 0 || unitsOfSegment > 0;
        }

        private int heldResource() {
            return unitsOfSegment > 0 && segment < MAX_SEGMENTS ? resources[segment] : NONE;
        }

        /** Runs the first job up to the end of a unit, and tells whether it is finished then. */
        private boolean runUnit(int end) {
            if (segment >= segmentCount) {
                return false;
            }
            unitsOfSegment++;
            if (unitsOfSegment == lengths[segment]) {
                segment++;
                unitsOfSegment = 0;
            }
            if (segment < segmentCount) {
                return false;
            }
            finishJob(end - jobs.firstRelease());
            return true;
        }

        private void finishJob(int response) {
            jobs.removeFirst();
            segment = 0;
            results[FINISHED]++;
            results[GREATEST_RESPONSE] = Math.max(results[GREATEST_RESPONSE], response);
            responseSum += response;
        }

        private void copyFrom(Task other) {
            System.arraycopy(other.resources, 0, resources, 0, resources.length);
            System.arraycopy(other.lengths, 0, lengths, 0, lengths.length);
            System.arraycopy(other.results, 0, results, 0, results.length);
            jobs.copyFrom(other.jobs);
            priority = other.priority;
            period = other.period;
            deadline = other.deadline;
            offset = other.offset;
            segmentCount = other.segmentCount;
            demand = other.demand;
            nextRelease = other.nextRelease;
            mustSkip = other.mustSkip;
            segment = other.segment;
            unitsOfSegment = other.unitsOfSegment;
            responseSum = other.responseSum;
        }
    }

    /** The requests, with what of them is still to be served. */
    private static final class Requests {
        private final int[] times = new int[MAX_REQUESTS];
        private final int[] lengths = new int[MAX_REQUESTS];
        private final int[] unitsLeft = new int[MAX_REQUESTS];
        private final int[] responses = new int[MAX_REQUESTS];
        private int count;

        private void removeAll() {
            count = 0;
        }

        private boolean isFull() {
            return count >= MAX_REQUESTS;
        }

        private int add(int time, int length) {
            if (isFull()) {
                return NONE;
            }
            times[count] = time;
            lengths[count] = length;
            unitsLeft[count] = length;
            responses[count] = NONE;
            count++;
            return count - 1;
        }

        private void startAgain() {
            for (int k = 0; k < count; k++) {
                unitsLeft[k] = lengths[k];
                responses[k] = NONE;
            }
        }

        /** The request that is served next among those that have arrived at a time, or NONE. */
        private int nextToServe(int time) {
            int next = NONE;
            for (int k = 0; k < count; k++) {
                boolean waits = times[k] <= time && unitsLeft[k] > 0;
                if (waits && (next == NONE || times[k] < times[next])) {
                    next = k;
                }
            }
            return next;
        }

        private void serve(int request, int end) {
            if (!isWithin(request, 0, count - 1)) {
                return;
            }
            unitsLeft[request]--;
            if (unitsLeft[request] == 0) {
                responses[request] = end - times[request];
            }
        }

        private void copyFrom(Requests other) {
            System.arraycopy(other.times, 0, times, 0, times.length);
            System.arraycopy(other.lengths, 0, lengths, 0, lengths.length);
            System.arraycopy(other.unitsLeft, 0, unitsLeft, 0, unitsLeft.length);
            System.arraycopy(other.responses, 0, responses, 0, responses.length);
            count = other.count;
        }
    }

    /** The sporadic server with its planned replenishments. */
    private static final class Server {
        // Balance, planned increases and units of the busy time add up to the budget, so this many are enough.
        private final int[] planTimes = new int[MAX_BUDGET];
        private final int[] planIncreases = new int[MAX_BUDGET];
        private int planCount;
        private boolean present;
        private int priority;
        private int budget;
        private int period;
        private int balance;
        private boolean busy;
        private int busySince;
        private int busyUnits;

        private void begin(int newPriority, int newBudget, int newPeriod) {
            present = true;
            priority = newPriority;
            budget = newBudget;
            period = newPeriod;
            startAgain();
        }

        private void startAgain() {
            balance = budget;
            busy = false;
            planCount = 0;
        }

        private boolean hasPriority(int wanted) {
            return present && priority == wanted;
        }

        private boolean isReady(boolean somethingWaits) {
            return present && somethingWaits && balance > 0;
        }

        private void replenishAt(int time) {
            int left = 0;
            for (int k = 0; k < planCount; k++) {
                if (planTimes[k] == time) {
                    balance += planIncreases[k];
                } else {
                    planTimes[left] = planTimes[k];
                    planIncreases[left] = planIncreases[k];
                    left++;
                }
            }
            planCount = left;
        }

        private void runUnit(int time) {
            if (!busy) {
                busy = true;
                busySince = time;
                busyUnits = 0;
            }
            balance--;
            busyUnits++;
        }

        private void endUnit(int end, boolean somethingWaits) {
            if (!busy || isReady(somethingWaits)) {
                return;
            }
            busy = false;
            if (planCount < MAX_BUDGET) {
                planTimes[planCount] = Math.max(busySince + period, end);
                planIncreases[planCount] = busyUnits;
                planCount++;
            }
        }

        private int nextPlan() {
            // A later busy time begins after the one before has ended, so its plan is later too.
            return planCount > 0 ? planTimes[0] : NONE;
        }

        private void copyFrom(Server other) {
            System.arraycopy(other.planTimes, 0, planTimes, 0, planTimes.length);
            System.arraycopy(other.planIncreases, 0, planIncreases, 0, planIncreases.length);
            planCount = other.planCount;
            present = other.present;
            priority = other.priority;
            budget = other.budget;
            period = other.period;
            balance = other.balance;
            busy = other.busy;
            busySince = other.busySince;
            busyUnits = other.busyUnits;
        }
    }

    /** All that a snapshot takes: what is configured, and how far the simulation is. */
    private static final class Bench {
        private final Task[] tasks = new Task[MAX_TASKS];
        private final Server server = new Server();
        private final Requests requests = new Requests();
        private final int[] ceilings = new int[MAX_RESOURCES];
        private final int[] ran = new int[MAX_CLOCK];
        private int taskCount;
        private int policy;
        private int clock;

        private Bench() {
            for (int i = 0; i < MAX_TASKS; i++) {
                tasks[i] = new Task();
            }
        }

        private boolean hasTask(int task) {
            return isWithin(task, 0, taskCount - 1);
        }

        private int removeAll() {
            int removed = taskCount;
            startAgain();
            taskCount = 0;
            server.present = false;
            requests.removeAll();
            policy = 0;
            for (int k = 0; k < MAX_RESOURCES; k++) {
                ceilings[k] = 0;
            }
            return removed;
        }

        private int startAgain() {
            int before = clock;
            for (int i = 0; i < taskCount; i++) {
                tasks[i].startAgain();
            }
            server.startAgain();
            requests.startAgain();
            clock = 0;
            return before;
        }

        private int putTask(int priority, int period, int deadline, int offset) {
            if (!isWithin(priority, 1, MAX_PRIORITY) || !isWithin(period, 1, MAX_PERIOD)
                    || !isWithin(deadline, 1, period) || !isWithin(offset, 0, MAX_OFFSET)) {
                return BAD_ARGUMENT;
            }
            if (clock != 0 || taskCount >= MAX_TASKS) {
                return BAD_STATE;
            }
            if (isPriorityOfTask(priority) || server.hasPriority(priority)) {
                return PRIORITY_TAKEN;
            }
            tasks[taskCount].begin(priority, period, deadline, offset);
            taskCount++;
            return taskCount - 1;
        }

        private boolean isPriorityOfTask(int priority) {
            for (int i = 0; i < taskCount; i++) {
                if (tasks[i].priority == priority) {
                    return true;
                }
            }
            return false;
        }

        private int putSegment(int task, int resource, int length) {
            if (!hasTask(task)) {
                return BAD_INDEX;
            }
            if (!isWithin(resource, NONE, MAX_RESOURCES - 1) || !isWithin(length, 1, MAX_LENGTH)) {
                return BAD_ARGUMENT;
            }
            Task chosen = tasks[task];
            if (clock != 0 || chosen.segmentCount >= MAX_SEGMENTS) {
                return BAD_STATE;
            }
            chosen.addPart(resource, length);
            if (resource != NONE) {
                ceilings[resource] = Math.max(ceilings[resource], chosen.priority);
            }
            return chosen.segmentCount;
        }

        private int putServer(int priority, int budget, int period) {
            if (!isWithin(priority, 1, MAX_PRIORITY) || !isWithin(budget, 1, MAX_BUDGET)
                    || !isWithin(period, 1, MAX_PERIOD)) {
                return BAD_ARGUMENT;
            }
            if (clock != 0) {
                return BAD_STATE;
            }
            if (isPriorityOfTask(priority)) {
                return PRIORITY_TAKEN;
            }
            int before = server.present ? 1 : 0;
            server.begin(priority, budget, period);
            return before;
        }

        private int putRequest(int time, int length) {
            if (!isWithin(time, 0, MAX_REQUEST_TIME) || !isWithin(length, 1, MAX_LENGTH) || time < clock) {
                return BAD_ARGUMENT;
            }
            if (requests.isFull()) {
                return BAD_STATE;
            }
            return requests.add(time, length);
        }

        private int putPolicy(int newPolicy) {
            if (!isWithin(newPolicy, 0, SKIP)) {
                return BAD_ARGUMENT;
            }
            int before = policy;
            policy = newPolicy;
            return before;
        }

        private int makeUnits(int units) {
            int finished = 0;
            for (int k = 0; k < units && clock < MAX_CLOCK; k++) {
                finished += makeUnit();
            }
            return finished;
        }

        /** Makes the unit at the clock, and returns the number of jobs that are finished with it. */
        private int makeUnit() {
            int time = clock;
            server.replenishAt(time);
            for (int i = 0; i < taskCount; i++) {
                tasks[i].releaseAt(time);
            }
            for (int i = 0; i < taskCount; i++) {
                tasks[i].missAt(time, policy);
            }
            int request = requests.nextToServe(time);
            int chosen = mostUrgent(server.isReady(request != NONE));
            notePreemption(chosen);
            ran[time] = chosen;
            clock = time + 1;
            boolean finished = false;
            if (chosen == SERVER) {
                server.runUnit(time);
                requests.serve(request, clock);
            } else if (hasTask(chosen)) {
                finished = tasks[chosen].runUnit(clock);
            }
            // Only requests that had arrived by the beginning of the unit keep the server busy.
            server.endUnit(clock, requests.nextToServe(time) != NONE);
            return finished ? 1 : 0;
        }

        private int mostUrgent(boolean serverIsReady) {
            int chosen = serverIsReady ? SERVER : NONE;
            int urgency = serverIsReady ? server.priority : 0;
            for (int i = 0; i < taskCount; i++) {
                if (tasks[i].jobs.isEmpty()) {
                    continue;
                }
                int own = urgencyOf(tasks[i]);
                // Two that hold are never equal: the later one began above the earlier one's ceiling.
                if (own > urgency || own == urgency && tasks[i].heldResource() != NONE) {
                    chosen = i;
                    urgency = own;
                }
            }
            return chosen;
        }

        private int urgencyOf(Task task) {
            int resource = task.heldResource();
            return resource == NONE ? task.priority : Math.max(task.priority, ceilings[resource]);
        }

        private void notePreemption(int chosen) {
            int before = clock > 0 ? ran[clock - 1] : NONE;
            // If the job that ran before is gone, the next one of its task has not started.
            if (before != chosen && hasTask(before) && tasks[before].hasStartedJob()) {
                tasks[before].results[PREEMPTED]++;
            }
        }

        private int holderOf(int resource) {
            for (int i = 0; i < taskCount; i++) {
                if (tasks[i].heldResource() == resource) {
                    return i;
                }
            }
            return NONE;
        }

        private int usedUnits() {
            int used = 0;
            for (int time = 0; time < clock; time++) {
                if (ran[time] != NONE) {
                    used++;
                }
            }
            return used;
        }

        private void copyFrom(Bench other) {
            for (int i = 0; i < MAX_TASKS; i++) {
                tasks[i].copyFrom(other.tasks[i]);
            }
            server.copyFrom(other.server);
            requests.copyFrom(other.requests);
            System.arraycopy(other.ceilings, 0, ceilings, 0, ceilings.length);
            System.arraycopy(other.ran, 0, ran, 0, ran.length);
            taskCount = other.taskCount;
            policy = other.policy;
            clock = other.clock;
        }
    }

    /** What is computed from the configuration alone. */
    private static final class Analysis {
        private static int blockingOf(Bench bench, Task task) {
            int greatest = 0;
            for (int i = 0; i < bench.taskCount; i++) {
                if (bench.tasks[i].priority < task.priority) {
                    greatest = Math.max(greatest, blockingBy(bench, bench.tasks[i], task.priority));
                }
            }
            return greatest;
        }

        private static int blockingBy(Bench bench, Task lower, int priority) {
            int greatest = 0;
            for (int k = 0; k < lower.segmentCount; k++) {
                int resource = lower.resources[k];
                if (resource != NONE && bench.ceilings[resource] >= priority) {
                    greatest = Math.max(greatest, lower.lengths[k] - 1);
                }
            }
            return greatest;
        }

        private static int boundOf(Bench bench, Task task) {
            int least = blockingOf(bench, task) + task.demand;
            int bound = least;
            // The need never falls as the bound grows, so climbing from below meets the least one first.
            for (int step = 0; step < MAX_BOUND && bound <= MAX_BOUND; step++) {
                int need = least + urgentWorkWithin(bench, task, bound);
                if (need == bound) {
                    return bound;
                }
                bound = need;
            }
            return NONE;
        }

        private static int urgentWorkWithin(Bench bench, Task task, int units) {
            int work = 0;
            for (int i = 0; i < bench.taskCount; i++) {
                Task other = bench.tasks[i];
                if (other.priority > task.priority) {
                    work += other.demand * quotientUp(units, other.period);
                }
            }
            if (isServerAbove(bench, task)) {
                work += bench.server.budget * quotientUp(units, bench.server.period);
            }
            return work;
        }

        private static boolean isServerAbove(Bench bench, Task task) {
            return bench.server.present && bench.server.priority > task.priority;
        }

        private static int quotientUp(int number, int divisor) {
            return divisor < 1 ? 0 : (number + divisor - 1) / divisor;
        }

        private static int witnessOf(Bench bench, Task task) {
            int blocked = blockingOf(bench, task);
            int ownUnits = task.demand;
            int urgentUnits = 0;
            for (int time = 0; time < MAX_BOUND; time++) {
                urgentUnits += urgentWorkReleasedAt(bench, task, time);
                if (time >= blocked) {
                    // Which of the more urgent jobs runs makes no difference to the least urgent one.
                    if (urgentUnits > 0) {
                        urgentUnits--;
                    } else {
                        ownUnits--;
                    }
                }
                if (ownUnits == 0) {
                    return time + 1;
                }
            }
            return NONE;
        }

        private static int urgentWorkReleasedAt(Bench bench, Task task, int time) {
            int work = 0;
            for (int i = 0; i < bench.taskCount; i++) {
                Task other = bench.tasks[i];
                if (other.priority > task.priority && isMultiple(time, other.period)) {
                    work += other.demand;
                }
            }
            if (isServerAbove(bench, task) && isMultiple(time, bench.server.period)) {
                work += bench.server.budget;
            }
            return work;
        }

        private static boolean isMultiple(int number, int divisor) {
            return divisor > 0 && number % divisor == 0;
        }

        private static boolean meetsDeadlines(Bench bench) {
            for (int i = 0; i < bench.taskCount; i++) {
                Task task = bench.tasks[i];
                if (task.segmentCount > 0 && !isWithin(boundOf(bench, task), 1, task.deadline)) {
                    return false;
                }
            }
            return true;
        }

        private static double loadOf(Bench bench) {
            double sum = 0;
            for (int i = 0; i < bench.taskCount; i++) {
                sum += share(bench.tasks[i].demand, bench.tasks[i].period);
            }
            if (bench.server.present) {
                sum += share(bench.server.budget, bench.server.period);
            }
            return sum;
        }

        private static double hyperbolicLoadOf(Bench bench) {
            double product = 1;
            for (int i = 0; i < bench.taskCount; i++) {
                product *= share(bench.tasks[i].demand, bench.tasks[i].period) + 1;
            }
            if (bench.server.present) {
                product *= share(bench.server.budget, bench.server.period) + 1;
            }
            return product;
        }

        private static double share(int part, int period) {
            return period < 1 ? 0 : (double) part / (double) period;
        }
    }

    /** The input buffer, and the reading of the command in it. */
    private static final class Reader {
        private final char[] signs = new char[MAX_SIGNS];
        private final int[] numbers = new int[MAX_NUMBERS];
        private int length;
        private int numberCount;
        private int reach;

        private boolean isFull() {
            return length >= MAX_SIGNS;
        }

        private int put(char sign) {
            if (!isFull()) {
                signs[length] = sign;
                length++;
            }
            return length;
        }

        private int number(int place) {
            return isWithin(place, 0, numberCount - 1) ? numbers[place] : 0;
        }

        /** Empties the buffer, and returns the form that its text has, or NONE if it is malformed. */
        private int takeForm() {
            int form = NONE;
            reach = 0;
            for (int k = 0; k < FORMS && form == NONE; k++) {
                if (fits(patternOf(k))) {
                    form = k;
                }
            }
            length = 0;
            return form;
        }

        private static String patternOf(int form) {
            switch (form) {
                case TASK_FORM:
                    return "task # # # #";
                case SERVER_FORM:
                    return "server # # #";
                case REQUEST_FORM:
                    return "request # #";
                case SEGMENT_FORM:
                    return "segment # # #";
                case FREE_SEGMENT_FORM:
                    return "segment # none #";
                case CONTINUE_FORM:
                    return "policy continue";
                case ABORT_FORM:
                    return "policy abort";
                case SKIP_FORM:
                    return "policy skip";
                default:
                    return "";
            }
        }

        private boolean fits(String pattern) {
            int at = 0;
            boolean goesOn = true;
            numberCount = 0;
            for (int p = 0; p < pattern.length() && goesOn; p++) {
                int next = pattern.charAt(p) == NUMBER ? afterNumber(at) : afterSign(at, pattern.charAt(p));
                goesOn = next > at;
                at = next;
            }
            // A text can go on as far as one of the forms goes on with it: the farthest reach is the error position.
            reach = Math.max(reach, at);
            return goesOn && at == length;
        }

        private int afterSign(int at, char sign) {
            return at < length && signs[at] == sign ? at + 1 : at;
        }

        private int afterNumber(int at) {
            int end = at;
            int value = 0;
            for (int k = 0; k < MAX_DIGITS && end < length && isWithin(signs[end], '0', '9'); k++) {
                // After a leading zero no digit can follow.
                if (k > 0 && value == 0) {
                    break;
                }
                value = value * 10 + (signs[end] - '0');
                end++;
            }
            if (end > at && numberCount < MAX_NUMBERS) {
                numbers[numberCount] = value;
                numberCount++;
            }
            return end;
        }
    }
}
