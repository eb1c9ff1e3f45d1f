import java.util.ArrayList;
import java.util.List;

/**
 * The document once more, as plainly as can be, without a thought of room or speed: each REQUEST is
 * an object of its own, each ROW a list. ModelTest compares StaticKernel with it.
 */
final class Model {
    static final class Task {
        int priority;
        boolean whole;
        int limit = 1;
        int events;
        int modes;
        List<Integer> uses = new ArrayList<>();
        int set;
        int waitsFor;
        List<Request> requests = new ArrayList<>();
    }

    static final class Request {
        final int task;
        List<Integer> taken = new ArrayList<>();
        boolean hasInternal;

        Request(int task) {
            this.task = task;
        }
    }

    static final class Isr {
        int priority;
        List<Integer> uses = new ArrayList<>();
        boolean called;
        List<Integer> taken = new ArrayList<>();
    }

    static final class Resource {
        boolean internal;
        int as = -1;
        int ceiling = -1;
        int least;
    }

    static final class Counter {
        int max;
        int base;
        int least;
        int value;
        int ticks;
        int waiting;
    }

    static final class Alarm {
        int counter;
        int task = -1;
        int event = -1;
        int modes;
        int in;
        int autoEvery;
        boolean used;
        int due;
        int every;
    }

    int modes;
    final List<Task> tasks = new ArrayList<>();
    final List<Isr> isrs = new ArrayList<>();
    final List<Resource> resources = new ArrayList<>();
    final List<Counter> counters = new ArrayList<>();
    final List<Alarm> alarms = new ArrayList<>();

    boolean on;
    int mode = -1;
    int shut;
    Request running;
    final List<Request> waiting = new ArrayList<>();
    final List<List<Request>> rows = new ArrayList<>();
    final List<Integer> begun = new ArrayList<>();
    final List<Integer> notes = new ArrayList<>();

    Model() {
        for (int p = 0; p < 64; p++) {
            rows.add(new ArrayList<>());
        }
    }

    // ---- the PLAN, when all things are told

    void complete() {
        for (int r = 0; r < resources.size(); r++) {
            List<Integer> group = groupOf(r);
            int least = r;
            int ceiling = -1;
            for (int one : group) {
                least = Math.min(least, one);
                for (Task task : tasks) {
                    if (r == 0 || task.uses.contains(one)) {
                        ceiling = Math.max(ceiling, task.priority);
                    }
                }
                for (Isr isr : isrs) {
                    if (isr.uses.contains(one)) {
                        ceiling = Math.max(ceiling, isr.priority);
                    }
                }
            }
            resources.get(r).least = least;
            resources.get(r).ceiling = ceiling;
        }
    }

    /** Grows by every resource that hangs together with one that is in it, till none is left. */
    private List<Integer> groupOf(int r) {
        List<Integer> group = new ArrayList<>(List.of(r));
        for (int round = 0; round < resources.size(); round++) {
            for (int other = 0; other < resources.size(); other++) {
                int as = resources.get(other).as;
                if (as >= 0 && group.contains(other) != group.contains(as)) {
                    group.add(group.contains(other) ? as : other);
                }
            }
        }
        return group;
    }

    int internalOf(int t) {
        for (int r : tasks.get(t).uses) {
            if (resources.get(r).internal) {
                return r;
            }
        }
        return -1;
    }

    // ---- what is at work

    int currentPriority(Request request) {
        int greatest = tasks.get(request.task).priority;
        for (int r : request.taken) {
            greatest = Math.max(greatest, resources.get(r).ceiling);
        }
        if (request.hasInternal) {
            greatest = Math.max(greatest, resources.get(internalOf(request.task)).ceiling);
        }
        return greatest;
    }

    int currentPriority(Isr isr) {
        int greatest = isr.priority;
        for (int r : isr.taken) {
            greatest = Math.max(greatest, resources.get(r).ceiling);
        }
        return greatest;
    }

    private Isr isrAtWork() {
        return begun.isEmpty() ? null : isrs.get(begun.get(begun.size() - 1));
    }

    private int priorityAtWork() {
        if (isrAtWork() != null) {
            return currentPriority(isrAtWork());
        }
        return running != null ? currentPriority(running) : -1;
    }

    private List<Integer> takenAtWork() {
        return isrAtWork() != null ? isrAtWork().taken : running.taken;
    }

    private int topRow() {
        for (int p = 63; p >= 0; p--) {
            if (!rows.get(p).isEmpty()) {
                return p;
            }
        }
        return -1;
    }

    // ---- SETTLING

    void settle() {
        if (!on || shut > 0) {
            return;
        }
        while (true) {
            int next = -1;
            for (int i = 0; i < isrs.size(); i++) {
                Isr isr = isrs.get(i);
                if (isr.called && isr.priority > priorityAtWork()
                        && (next < 0 || isr.priority > isrs.get(next).priority)) {
                    next = i;
                }
            }
            if (next < 0) {
                break;
            }
            isrs.get(next).called = false;
            begun.add(next);
            notes.add(50000 + next);
        }
        if (!begun.isEmpty()) {
            return;
        }
        if (running == null) {
            if (topRow() >= 0) {
                runTop();
            }
        } else if (!tasks.get(running.task).whole && topRow() > currentPriority(running)) {
            preempt();
            runTop();
        }
    }

    private void runTop() {
        running = rows.get(topRow()).remove(0);
        running.hasInternal = internalOf(running.task) >= 0;
        notes.add(10000 + running.task);
    }

    private void preempt() {
        rows.get(currentPriority(running)).add(0, running);
        notes.add(20000 + running.task);
        running = null;
    }

    private void newRequest(int t) {
        Task task = tasks.get(t);
        if (task.requests.isEmpty()) {
            task.set = 0;
        }
        Request request = new Request(t);
        task.requests.add(request);
        rows.get(task.priority).add(request);
    }

    private void through() {
        tasks.get(running.task).requests.remove(running);
        notes.add(20000 + running.task);
        running = null;
    }

    private void setEvents(int t, int mask) {
        Task task = tasks.get(t);
        task.set |= mask & task.events;
        if (!task.requests.isEmpty() && waiting.contains(task.requests.get(0)) && (task.waitsFor & task.set) != 0) {
            Request request = task.requests.get(0);
            waiting.remove(request);
            task.waitsFor = 0;
            rows.get(task.priority).add(request);
        }
    }

    // ---- the calls

    int start(int newMode) {
        if (on) {
            return 7;
        }
        if (newMode < 0 || newMode >= modes) {
            return 3;
        }
        notes.clear();
        notes.add(70000 + newMode);
        on = true;
        mode = newMode;
        for (Counter counter : counters) {
            counter.value = 0;
            counter.ticks = 0;
        }
        for (int t = 0; t < tasks.size(); t++) {
            if ((tasks.get(t).modes >> newMode & 1) == 1) {
                newRequest(t);
            }
        }
        for (Alarm alarm : alarms) {
            if ((alarm.modes >> newMode & 1) == 1) {
                alarm.used = true;
                alarm.due = alarm.in % (counters.get(alarm.counter).max + 1);
                alarm.every = alarm.autoEvery;
            }
        }
        settle();
        return 0;
    }

    /** The statuses 10 and 9, the services of which have these numbers. */
    private int entry(int service) {
        if (!on || begun.isEmpty() && running == null) {
            return 10;
        }
        return shut > 0 && service != 15 && service != 16 && service != 18 ? 9 : 0;
    }

    long service(int number, int x, int y, int z) {
        int status = entry(number);
        if (status == 0) {
            status = check(number, x, y, z);
        }
        long answer = status;
        if (status == 0) {
            answer = act(number, x, y, z);
        } else if (status != 10) {
            notes.add(30000 + 100 * number + status);
        }
        settle();
        return status != 0 && (number == 10 || number == 14) ? -status : answer;
    }

    private int check(int number, int x, int y, int z) {
        boolean noTask = x < 0 || x >= tasks.size();
        boolean noAlarm = x < 0 || x >= alarms.size();
        switch (number) {
            case 1:
                return noTask ? 3 : isAtLimit(x) ? 4 : 0;
            case 2:
            case 4:
                return checkFree();
            case 3:
                return checkFree() != 0 ? checkFree() : noTask ? 3 : x != running.task && isAtLimit(x) ? 4 : 0;
            case 5:
                return checkTake(x);
            case 6:
                return noTakeable(x) ? 3 : !isLastTaken(x) ? 5 : 0;
            case 7:
            case 10:
                return noTask ? 3 : tasks.get(x).events == 0 ? 1 : tasks.get(x).requests.isEmpty() ? 7 : 0;
            case 8:
                return !begun.isEmpty() ? 2 : tasks.get(running.task).events == 0 ? 1 : 0;
            case 9:
                return !begun.isEmpty() ? 2 : tasks.get(running.task).events == 0 ? 1
                        : !running.taken.isEmpty() ? 6 : 0;
            case 11:
                return noAlarm ? 3 : alarms.get(x).used ? 7 : isBad(x, y, 1, z) ? 8 : 0;
            case 12:
                return noAlarm ? 3 : alarms.get(x).used ? 7 : isBad(x, y, 0, z) ? 8 : 0;
            case 13:
            case 14:
                return noAlarm ? 3 : !alarms.get(x).used ? 5 : 0;
            case 15:
                return shut == 100 ? 4 : 0;
            case 16:
                return shut == 0 ? 5 : 0;
            case 17:
                return begun.isEmpty() ? 2 : !isrAtWork().taken.isEmpty() ? 6 : 0;
            default:
                return 0;
        }
    }

    private boolean isAtLimit(int t) {
        return tasks.get(t).requests.size() >= tasks.get(t).limit;
    }

    private int checkFree() {
        return !begun.isEmpty() ? 2 : !running.taken.isEmpty() ? 6 : 0;
    }

    private boolean noTakeable(int r) {
        return r < 0 || r >= resources.size() || resources.get(r).internal;
    }

    private int checkTake(int r) {
        if (noTakeable(r)) {
            return 3;
        }
        int priority = isrAtWork() != null ? isrAtWork().priority : tasks.get(running.task).priority;
        return holder(r) >= 0 || priority > resources.get(r).ceiling ? 1 : 0;
    }

    private boolean isLastTaken(int r) {
        List<Integer> taken = takenAtWork();
        return !taken.isEmpty() && taken.get(taken.size() - 1) == r;
    }

    private boolean isBad(int a, int number, int least, int every) {
        Counter counter = counters.get(alarms.get(a).counter);
        return number < least || number > counter.max
                || every != 0 && (every < counter.least || every > counter.max);
    }

    private long act(int number, int x, int y, int z) {
        switch (number) {
            case 1:
                newRequest(x);
                break;
            case 2:
                through();
                break;
            case 3:
                through();
                newRequest(x);
                break;
            case 4:
                if (topRow() > tasks.get(running.task).priority) {
                    running.hasInternal = false;
                    preempt();
                    runTop();
                }
                break;
            case 5:
                takenAtWork().add(x);
                break;
            case 6:
                takenAtWork().remove(takenAtWork().size() - 1);
                break;
            case 7:
                setEvents(x, y);
                break;
            case 8:
                tasks.get(running.task).set &= ~x;
                break;
            case 9:
                actAwait(x);
                break;
            case 10:
                return tasks.get(x).set & 0xFFFFFFFFL;
            case 11:
                use(alarms.get(x), (counterOf(x).value + y) % (counterOf(x).max + 1), z);
                break;
            case 12:
                use(alarms.get(x), y, z);
                break;
            case 13:
                alarms.get(x).used = false;
                break;
            case 14:
                return steps(x);
            case 15:
                shut++;
                break;
            case 16:
                actOpen();
                break;
            case 17:
                notes.add(60000 + begun.remove(begun.size() - 1));
                break;
            default:
                actHalt(x);
                break;
        }
        return 0;
    }

    private void actAwait(int mask) {
        Task task = tasks.get(running.task);
        if ((task.set & task.events & mask) == 0) {
            task.waitsFor = task.events & mask;
            running.hasInternal = false;
            waiting.add(running);
            notes.add(20000 + running.task);
            running = null;
        }
    }

    private void actOpen() {
        shut--;
        if (shut == 0) {
            for (int c = 0; c < counters.size(); c++) {
                int ticks = counters.get(c).waiting;
                counters.get(c).waiting = 0;
                for (int n = 0; n < ticks; n++) {
                    tickOnce(c);
                }
            }
        }
    }

    private void actHalt(int code) {
        notes.add(80000 + (code & 127));
        on = false;
        mode = -1;
        shut = 0;
        running = null;
        waiting.clear();
        begun.clear();
        for (List<Request> row : rows) {
            row.clear();
        }
        for (Task task : tasks) {
            task.requests.clear();
            task.set = 0;
            task.waitsFor = 0;
        }
        for (Isr isr : isrs) {
            isr.called = false;
            isr.taken.clear();
        }
        for (Counter counter : counters) {
            counter.waiting = 0;
        }
        for (Alarm alarm : alarms) {
            alarm.used = false;
        }
    }

    private Counter counterOf(int a) {
        return counters.get(alarms.get(a).counter);
    }

    private static void use(Alarm alarm, int due, int every) {
        alarm.used = true;
        alarm.due = due;
        alarm.every = every;
    }

    int steps(int a) {
        Counter counter = counterOf(a);
        int steps = 0;
        int value = counter.value;
        do {
            value = value == counter.max ? 0 : value + 1;
            steps++;
        } while (value != alarms.get(a).due);
        return steps;
    }

    int tick(int c, int n) {
        if (!on || c < 0 || c >= counters.size() || n < 1 || n > 1000) {
            return -1;
        }
        if (shut > 0) {
            for (int i = 0; i < n && counters.get(c).waiting < 2000; i++) {
                counters.get(c).waiting++;
            }
            return 0;
        }
        int met = 0;
        for (int i = 0; i < n; i++) {
            met += tickOnce(c);
        }
        return met;
    }

    private int tickOnce(int c) {
        Counter counter = counters.get(c);
        int met = 0;
        counter.ticks++;
        if (counter.ticks == counter.base) {
            counter.ticks = 0;
            counter.value = counter.value == counter.max ? 0 : counter.value + 1;
            for (int a = 0; a < alarms.size(); a++) {
                Alarm alarm = alarms.get(a);
                if (alarm.counter == c && alarm.used && alarm.due == counter.value) {
                    met++;
                    meet(a, alarm, counter);
                }
            }
        }
        settle();
        return met;
    }

    private void meet(int a, Alarm alarm, Counter counter) {
        notes.add(40000 + a);
        if (alarm.event >= 0) {
            if (tasks.get(alarm.task).requests.isEmpty()) {
                notes.add(32007);
            } else {
                setEvents(alarm.task, 1 << alarm.event);
            }
        } else if (alarm.task >= 0) {
            if (isAtLimit(alarm.task)) {
                notes.add(32004);
            } else {
                newRequest(alarm.task);
            }
        }
        alarm.used = alarm.every != 0;
        alarm.due = (counter.value + alarm.every) % (counter.max + 1);
    }

    int call(int i) {
        if (!on || i < 0 || i >= isrs.size()) {
            return -1;
        }
        if (isrs.get(i).called) {
            return 1;
        }
        isrs.get(i).called = true;
        settle();
        return 0;
    }

    // ---- what there is to see

    int atWork() {
        return !begun.isEmpty() ? 100 + begun.get(begun.size() - 1) : running();
    }

    int running() {
        return running == null ? -1 : running.task;
    }

    /** The REQUEST of a task that is RUNNING, WAITING or first in the ROWS. */
    private Request first(int t) {
        if (running() == t) {
            return running;
        }
        for (Request request : waiting) {
            if (request.task == t) {
                return request;
            }
        }
        for (int p = 63; p >= 0; p--) {
            for (Request request : rows.get(p)) {
                if (request.task == t) {
                    return request;
                }
            }
        }
        return null;
    }

    int task(int t, int what) {
        Task task = tasks.get(t);
        Request first = first(t);
        switch (what) {
            case 0:
                return first == null ? 0 : first == running ? 2 : waiting.contains(first) ? 3 : 1;
            case 1:
                return task.requests.size();
            case 2:
                return first == null ? task.priority : currentPriority(first);
            case 3:
                return first == null ? 0 : first.taken.size() + (first.hasInternal ? 1 : 0);
            case 4:
                return task.priority;
            case 5:
                return task.limit;
            default:
                return task.whole ? 1 : 0;
        }
    }

    int holder(int r) {
        for (int t = 0; t < tasks.size(); t++) {
            for (Request request : tasks.get(t).requests) {
                if (request.taken.contains(r) || request.hasInternal && internalOf(t) == r) {
                    return t;
                }
            }
        }
        for (int i = 0; i < isrs.size(); i++) {
            if (isrs.get(i).taken.contains(r)) {
                return 100 + i;
            }
        }
        return -1;
    }

    int allRequests() {
        int all = waiting.size() + (running == null ? 0 : 1);
        for (List<Request> row : rows) {
            all += row.size();
        }
        return all;
    }
}
