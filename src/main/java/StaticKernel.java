import java.util.NoSuchElementException;

/** The kernel of a control unit in which all that there is was told ahead, in a PLAN. */
public final class StaticKernel {
    public static final int NONE = -1;

    private static final int TAPE_MOST = 4000;
    private static final int FEED_BYTES = 20;
    private static final int NAME_MOST = 12;
    private static final int VALUE_MOST = 65535;

    private static final int MODES = 0;
    private static final int EVENTS = 1;
    private static final int RESOURCES = 2;
    private static final int COUNTERS = 3;
    private static final int TASKS = 4;
    private static final int ISRS = 5;
    private static final int ALARMS = 6;
    private static final int SORTS = 7;

    /** How many things of each SORT there may be; of resources the SCHEDULER is one. */
    private static final int[] MOST = {8, 32, 32, 16, 48, 16, 48};
    private static final int RESOURCES_MOST = 32;
    private static final int COUNTERS_MOST = 16;
    private static final int TASKS_MOST = 48;
    private static final int ISRS_MOST = 16;
    private static final int ALARMS_MOST = 48;
    private static final int THINGS_MOST = 48;
    private static final int PRIORITY_MOST = 63;
    private static final int LIMIT_MOST = 8;
    private static final int BASE_MOST = 1000;
    private static final int LEVEL_MOST = 16;
    private static final int SHUT_MOST = 100;
    private static final int TICKS_MOST = 1000;
    private static final int WAITING_MOST = 2000;
    private static final int NOTES_MOST = 500;
    private static final int SCHEDULER = 0;
    private static final int ISR_OFFSET = 100;

    private static final int TWICE = 2;
    private static final int UNKNOWN = 3;
    private static final int RANGE = 4;
    private static final int RULE = 5;
    private static final int FULL = 6;

    private static final int SUSPENDED = 0;
    private static final int READY = 1;
    private static final int RUNNING = 2;
    private static final int WAITING = 3;

    private static final int DONE = 0;
    private static final int ACCESS = 1;
    private static final int LEVEL = 2;
    private static final int NUMBER = 3;
    private static final int LIMIT = 4;
    private static final int NOTHING = 5;
    private static final int RESOURCE = 6;
    private static final int STATE = 7;
    private static final int VALUE = 8;
    private static final int SHUT = 9;
    private static final int NOBODY = 10;

    private static final int NOTE_RUNS = 10000;
    private static final int NOTE_STOPS = 20000;
    private static final int NOTE_STATUS = 30000;
    private static final int NOTE_MET = 40000;
    private static final int NOTE_BEGINS = 50000;
    private static final int NOTE_ENDS = 60000;
    private static final int NOTE_START = 70000;
    private static final int NOTE_HALT = 80000;

    private static final int BY_ALARM = 20;

    private static final Kind[] KINDS = Kind.values();

    private final char[] tape = new char[TAPE_MOST];
    private int tapeLength;
    private final Tokens tokens = new Tokens();
    private final Outline outline = new Outline(tokens);
    private final Faults faults = new Faults(outline);
    private final Plan plan = new Plan();
    private final Machine machine = new Machine(plan);

    public StaticKernel() {
    }

    // ---- the PLAN

    public boolean feed(int a, int b, int c, int d, int e) {
        machine.audit();
        if (tapeLength + FEED_BYTES > TAPE_MOST) {
            return false;
        }
        putFourBytes(a);
        putFourBytes(b);
        putFourBytes(c);
        putFourBytes(d);
        putFourBytes(e);
        return true;
    }

    private void putFourBytes(int word) {
        for (int shift = 24; shift >= 0 && tapeLength < TAPE_MOST; shift -= 8) {
            tape[tapeLength] = (char) (word >>> shift & 255);
            tapeLength++;
        }
    }

    public int build(int n) {
        machine.audit();
        if (machine.on || n < 0 || n > tapeLength) {
            return -2;
        }
        tapeLength = 0;
        tokens.read(tape, n);
        faults.look(outline.firstBad());
        if (faults.kind != 0) {
            return NONE;
        }
        plan.fill(outline);
        machine.forgetNotes();
        return 0;
    }

    public int fault(int what) {
        switch (what) {
            case 0:
                return faults.kind;
            case 1:
                return faults.place;
            default:
                return NONE;
        }
    }

    public int many(int sort) {
        machine.audit();
        return sort >= 0 && sort < SORTS ? plan.told[sort] : NONE;
    }

    public long name(int sort, int i, int k) throws NoSuchElementException {
        machine.audit();
        mustHave(sort, i);
        if (k < 0) {
            throw new NoSuchElementException();
        }
        return plan.nameBytes(sort, i, k);
    }

    private void mustHave(int sort, int i) {
        if (!plan.has(sort, i)) {
            throw new NoSuchElementException();
        }
    }

    // ---- start, and the services: the number that finish() gets is the service's, for the NOTES

    public int start(int mode) {
        int status = tryStart(mode);
        machine.settle();
        machine.audit();
        return status;
    }

    private int tryStart(int mode) {
        if (machine.on) {
            return STATE;
        }
        if (!plan.has(MODES, mode)) {
            return NUMBER;
        }
        machine.goOn(mode);
        return DONE;
    }

    public int activate(int t) {
        return machine.finish(1, tryActivate(t));
    }

    private int tryActivate(int t) {
        int status = machine.entry();
        if (status != DONE) {
            return status;
        }
        return plan.has(TASKS, t) ? machine.request(t) : NUMBER;
    }

    public int terminate() {
        return machine.finish(2, tryTerminate());
    }

    private int tryTerminate() {
        int status = machine.freeTaskEntry();
        if (status == DONE) {
            machine.endRequest();
        }
        return status;
    }

    public int chain(int t) {
        return machine.finish(3, tryChain(t));
    }

    private int tryChain(int t) {
        int status = machine.freeTaskEntry();
        if (status != DONE) {
            return status;
        }
        if (!plan.has(TASKS, t)) {
            return NUMBER;
        }
        if (t != machine.current && plan.tasks[t].isAtLimit()) {
            return LIMIT;
        }
        machine.endRequest();
        return machine.request(t);
    }

    public int schedule() {
        return machine.finish(4, trySchedule());
    }

    private int trySchedule() {
        int status = machine.freeTaskEntry();
        if (status == DONE) {
            machine.yieldToTop();
        }
        return status;
    }

    public int take(int r) {
        return machine.finish(5, tryTake(r));
    }

    private int tryTake(int r) {
        int status = machine.entry();
        if (status != DONE) {
            return status;
        }
        if (!plan.isTakeable(r)) {
            return NUMBER;
        }
        Worker taker = machine.worker();
        if (plan.holder(r) != NONE || taker.priority > plan.ceiling[r]) {
            return ACCESS;
        }
        taker.hold(r);
        return DONE;
    }

    public int give(int r) {
        return machine.finish(6, tryGive(r));
    }

    private int tryGive(int r) {
        int status = machine.entry();
        if (status != DONE) {
            return status;
        }
        if (!plan.isTakeable(r)) {
            return NUMBER;
        }
        Worker giver = machine.worker();
        if (giver.lastHeld() != r) {
            return NOTHING;
        }
        giver.heldCount--;
        return DONE;
    }

    public int signal(int t, int mask) {
        return machine.finish(7, trySignal(t, mask));
    }

    private int trySignal(int t, int mask) {
        int status = machine.eventEntry(t);
        return status == DONE ? machine.setEvents(t, mask) : status;
    }

    public int clear(int mask) {
        return machine.finish(8, tryClear(mask));
    }

    private int tryClear(int mask) {
        int status = machine.extendedTaskEntry();
        if (status == DONE) {
            machine.worker().set &= ~mask;
        }
        return status;
    }

    public int await(int mask) {
        return machine.finish(9, tryAwait(mask));
    }

    private int tryAwait(int mask) {
        int status = machine.extendedTaskEntry();
        if (status != DONE) {
            return status;
        }
        if (machine.worker().heldCount > 0) {
            return RESOURCE;
        }
        machine.waitFor(mask);
        return DONE;
    }

    public long given(int t) {
        int status = machine.finish(10, machine.eventEntry(t));
        return status == DONE ? asBits(plan.tasks[t].set) : -status;
    }

    public int after(int a, int in, int every) {
        return machine.finish(11, tryAfter(a, in, every));
    }

    private int tryAfter(int a, int in, int every) {
        int status = alarmEntry(a, 1, in, every);
        if (status == DONE) {
            Alarm alarm = plan.alarms[a];
            alarm.use(plan.counters[alarm.counter].valueBehind(in), every);
        }
        return status;
    }

    public int at(int a, int due, int every) {
        return machine.finish(12, tryAt(a, due, every));
    }

    private int tryAt(int a, int due, int every) {
        int status = alarmEntry(a, 0, due, every);
        if (status == DONE) {
            plan.alarms[a].use(due, every);
        }
        return status;
    }

    /** The status of a service that puts an alarm to use; its number must be least .. max. */
    private int alarmEntry(int a, int least, int number, int every) {
        int status = machine.entry();
        if (status != DONE) {
            return status;
        }
        if (!plan.has(ALARMS, a)) {
            return NUMBER;
        }
        Alarm alarm = plan.alarms[a];
        if (alarm.inUse) {
            return STATE;
        }
        Counter counter = plan.counters[alarm.counter];
        boolean fits = number >= least && number <= counter.max && counter.allowsEvery(every);
        return fits ? DONE : VALUE;
    }

    public int cancel(int a) {
        return machine.finish(13, tryCancel(a));
    }

    private int tryCancel(int a) {
        int status = usedAlarmEntry(a);
        if (status == DONE) {
            plan.alarms[a].inUse = false;
        }
        return status;
    }

    public int left(int a) {
        int status = machine.finish(14, usedAlarmEntry(a));
        return status == DONE ? plan.stepsToAlarm(a) : -status;
    }

    private int usedAlarmEntry(int a) {
        int status = machine.entry();
        if (status != DONE) {
            return status;
        }
        if (!plan.has(ALARMS, a)) {
            return NUMBER;
        }
        return plan.alarms[a].inUse ? DONE : NOTHING;
    }

    public int shut() {
        return machine.finish(15, tryShut());
    }

    private int tryShut() {
        if (machine.isIdle()) {
            return NOBODY;
        }
        if (machine.shutDepth >= SHUT_MOST) {
            return LIMIT;
        }
        machine.shutDepth++;
        return DONE;
    }

    public int open() {
        int status = tryOpen();
        if (status == DONE && machine.shutDepth == 0) {
            doWaitingTicks();
        }
        return machine.finish(16, status);
    }

    private int tryOpen() {
        if (machine.isIdle()) {
            return NOBODY;
        }
        if (machine.shutDepth == 0) {
            return NOTHING;
        }
        machine.shutDepth--;
        return DONE;
    }

    private void doWaitingTicks() {
        for (int c = 0; c < plan.told[COUNTERS]; c++) {
            Counter counter = plan.counters[c];
            int ticks = counter.waiting;
            counter.waiting = 0;
            machine.tickTimes(c, ticks);
        }
    }

    public int leave() {
        return machine.finish(17, tryLeave());
    }

    private int tryLeave() {
        int status = machine.entry();
        if (status != DONE) {
            return status;
        }
        if (machine.begunCount == 0) {
            return LEVEL;
        }
        if (machine.worker().heldCount > 0) {
            return RESOURCE;
        }
        machine.endIsr();
        return DONE;
    }

    public int halt(int code) {
        return machine.finish(18, tryHalt(code));
    }

    private int tryHalt(int code) {
        if (machine.isIdle()) {
            return NOBODY;
        }
        machine.keepNote(NOTE_HALT + (code & 127));
        machine.goOff();
        return DONE;
    }

    // ---- ticks and interrupts

    public int tick(int c, int n) {
        int met = NONE;
        if (machine.on && plan.has(COUNTERS, c) && n >= 1 && n <= TICKS_MOST) {
            met = tickOrWait(c, n);
        }
        machine.audit();
        return met;
    }

    private int tickOrWait(int c, int n) {
        if (machine.shutDepth == 0) {
            return machine.tickTimes(c, n);
        }
        Counter counter = plan.counters[c];
        counter.waiting = Math.min(counter.waiting + n, WAITING_MOST);
        return 0;
    }

    public int call(int i) {
        int answer = tryCall(i);
        machine.settle();
        machine.audit();
        return answer;
    }

    private int tryCall(int i) {
        if (!machine.on || !plan.has(ISRS, i)) {
            return NONE;
        }
        Worker isr = plan.isrs[i];
        if (isr.called) {
            return 1;
        }
        isr.called = true;
        return 0;
    }

    // ---- what there is to see

    public int atWork() {
        machine.audit();
        return machine.begunCount > 0 ? ISR_OFFSET + machine.lastBegun() : machine.current;
    }

    public int running() {
        return machine.current;
    }

    public int task(int t, int what) throws NoSuchElementException {
        mustHave(TASKS, t);
        Worker task = plan.tasks[t];
        switch (what) {
            case 0:
                return machine.stateOf(t);
            case 1:
                return task.requests;
            case 2:
                return plan.currentPriority(task);
            case 3:
                return task.heldCount + (task.hasInternal ? 1 : 0);
            case 4:
                return task.priority;
            case 5:
                return task.limit;
            case 6:
                return task.whole ? 1 : 0;
            default:
                return NONE;
        }
    }

    public long bits(int t, int what) throws NoSuchElementException {
        mustHave(TASKS, t);
        Worker task = plan.tasks[t];
        switch (what) {
            case 0:
                return asBits(task.events);
            case 1:
                return asBits(task.set);
            case 2:
                return asBits(task.waitsFor);
            default:
                return 0;
        }
    }

    /** The bits of 32 events as a number from 0 on. */
    private static long asBits(int mask) {
        return mask & 0xFFFFFFFFL;
    }

    public int resource(int r, int what) throws NoSuchElementException {
        mustHave(RESOURCES, r);
        switch (what) {
            case 0:
                return plan.ceiling[r];
            case 1:
                return plan.holder(r);
            case 2:
                return plan.leastOfGroup[r];
            case 3:
                return plan.internal[r] ? 1 : 0;
            default:
                return NONE;
        }
    }

    public int isr(int i, int what) throws NoSuchElementException {
        mustHave(ISRS, i);
        Worker isr = plan.isrs[i];
        switch (what) {
            case 0:
                return plan.currentPriority(isr);
            case 1:
                return machine.placeAmongBegun(i);
            case 2:
                return isr.called ? 1 : 0;
            default:
                return NONE;
        }
    }

    public int counter(int c, int what) throws NoSuchElementException {
        mustHave(COUNTERS, c);
        Counter counter = plan.counters[c];
        switch (what) {
            case 0:
                return counter.value;
            case 1:
                return counter.ticks;
            case 2:
                return counter.waiting;
            case 3:
                return counter.max;
            case 4:
                return counter.base;
            case 5:
                return counter.least;
            default:
                return NONE;
        }
    }

    public int alarm(int a, int what) throws NoSuchElementException {
        mustHave(ALARMS, a);
        Alarm alarm = plan.alarms[a];
        switch (what) {
            case 0:
                return alarm.inUse ? plan.stepsToAlarm(a) : NONE;
            case 1:
                return alarm.inUse ? alarm.every : NONE;
            case 2:
                return alarm.counter;
            case 3:
                return alarm.task;
            case 4:
                return alarm.event;
            default:
                return NONE;
        }
    }

    public int row(int p, int i) {
        return machine.rows.taskAt(p, i);
    }

    public int note(int k) throws NoSuchElementException {
        if (k < 0 || k >= machine.keptNotes()) {
            throw new NoSuchElementException();
        }
        return machine.latestNote(k);
    }

    public int count(int what) {
        switch (what) {
            case 0:
                return tapeLength;
            case 1:
                return machine.on ? 1 : 0;
            case 2:
                return machine.mode;
            case 3:
                return machine.shutDepth;
            case 4:
                return machine.begunCount;
            case 5:
                return plan.allRequests();
            case 6:
                return machine.noted;
            case 7:
                return machine.unsettled;
            case 8:
                return machine.doubleHad;
            default:
                return NONE;
        }
    }

    /** What a token is; those with a text are the WORDS of the PLAN. */
    private enum Kind {
        BAD(""), END(""), COMMA(""), NUMBER(""), NAME(""),
        MODE("mode"), EVENT("event"), RESOURCE("resource"), INTERNAL("internal"), AS("as"),
        COUNTER("counter"), MAX("max"), BASE("base"), LEAST("least"),
        TASK("task"), PRIORITY("priority"), ISR("isr"), LEVEL("level"), USES("uses"),
        ALARM("alarm"), ON("on"), STARTS("starts"), SETS("sets"), CALLS("calls"),
        AUTO("auto"), IN("in"), EVERY("every"),
        WHOLE("whole"), LIMIT("limit"), WAITS("waits");

        final String word;

        Kind(String word) {
            this.word = word;
        }
    }

    /** What a token is there for, and the SORT that it must mean (NONE: it need mean nothing). */
    private enum Role {
        WORD(NONE), TELLS(NONE), PART(NONE),
        AS(RESOURCES), USES(RESOURCES), ON(COUNTERS), STARTS(TASKS), SETS(TASKS),
        EVENT(EVENTS), WAITS(EVENTS), AUTO(MODES),
        PRIORITY(NONE), LIMIT(NONE), MAX(NONE), BASE(NONE), LEAST(NONE), LEVEL(NONE),
        IN(NONE), EVERY(NONE);

        final int wanted;

        Role(int wanted) {
            this.wanted = wanted;
        }
    }

    /** The tokens of a text, up to the first that is none. */
    private static final class Tokens {
        /** Each token has a byte at least, and the text's end is one more. */
        static final int ROOM = TAPE_MOST + 1;

        final Kind[] kind = new Kind[ROOM];
        final int[] place = new int[ROOM];
        final int[] value = new int[ROOM];
        /** A NAME's first eight bytes, and those behind them, the first one highest. */
        final long[] high = new long[ROOM];
        final long[] low = new long[ROOM];
        int size;

        void read(char[] text, int length) {
            size = 0;
            int past = 0;
            for (int from = 0; from < length; from++) {
                if (from < past) {
                    continue;
                }
                past = readOne(text, from, length);
                if (size > 0 && kind[size - 1] == Kind.BAD) {
                    return;
                }
            }
            add(Kind.END, length);
        }

        /** Reads a token, a blank or a note, and answers where that ends. */
        private int readOne(char[] text, int from, int length) {
            char c = text[from];
            if (c == ' ' || c == '\n') {
                return from + 1;
            }
            if (c == '#') {
                return endOfNote(text, from, length);
            }
            if (isLetter(c)) {
                return readName(text, from, length);
            }
            if (isDigit(c)) {
                return readNumber(text, from, length);
            }
            add(c == ',' ? Kind.COMMA : Kind.BAD, from);
            return from + 1;
        }

        private static int endOfNote(char[] text, int from, int length) {
            for (int i = from; i < length; i++) {
                if (text[i] == '\n') {
                    return i;
                }
            }
            return length;
        }

        private int readName(char[] text, int from, int length) {
            int past = from;
            while (past < length && isNamePart(text[past])) {
                past++;
            }
            if (past - from > NAME_MOST) {
                add(Kind.BAD, from);
                return past;
            }
            high[size] = packed(text, from, past);
            low[size] = packed(text, from + 8, past);
            add(wordOrName(text, from, past), from);
            return past;
        }

        private int readNumber(char[] text, int from, int length) {
            int past = from;
            int number = 0;
            while (past < length && isDigit(text[past])) {
                number = Math.min(number * 10 + text[past] - '0', VALUE_MOST + 1);
                past++;
            }
            boolean runsOn = past < length && isNamePart(text[past]);
            value[size] = number;
            add(runsOn || number > VALUE_MOST ? Kind.BAD : Kind.NUMBER, from);
            return past;
        }

        private static Kind wordOrName(char[] text, int from, int past) {
            for (Kind one : KINDS) {
                if (isText(one.word, text, from, past)) {
                    return one;
                }
            }
            return Kind.NAME;
        }

        private static boolean isText(String word, char[] text, int from, int past) {
            if (word.length() != past - from) {
                return false;
            }
            for (int i = from; i < past; i++) {
                if (word.charAt(i - from) != text[i]) {
                    return false;
                }
            }
            return true;
        }

        private static long packed(char[] text, int from, int past) {
            long bytes = 0;
            for (int i = from; i < from + 8; i++) {
                bytes = bytes << 8 | (i < past ? text[i] : 0);
            }
            return bytes;
        }

        private void add(Kind one, int from) {
            kind[size] = one;
            place[size] = from;
            size++;
        }

        private static boolean isLetter(char c) {
            return c >= 'a' && c <= 'z';
        }

        private static boolean isDigit(char c) {
            return c >= '0' && c <= '9';
        }

        private static boolean isNamePart(char c) {
            return isLetter(c) || isDigit(c) || c == '_';
        }

        Kind kindAt(int i) {
            return i < size ? kind[i] : Kind.END;
        }

        boolean isSameName(int i, int j) {
            return high[i] == high[j] && low[i] == low[j];
        }
    }

    /** The ITEMS that the tokens make: the ROLE of each token, and what its NAME means. */
    private static final class Outline {
        /** More than fit: the shortest ITEM has six bytes. */
        static final int ROOM = TAPE_MOST / 6 + 1;

        final Tokens tokens;
        final Role[] role = new Role[Tokens.ROOM];
        final int[] owner = new int[Tokens.ROOM];
        /** The first ITEM that tells a token's NAME, or NONE. */
        final int[] means = new int[Tokens.ROOM];
        final int[] sort = new int[ROOM];
        final int[] number = new int[ROOM];
        final int[] nameAt = new int[ROOM];
        final int[] end = new int[ROOM];
        final int[] told = new int[SORTS];
        int items;
        int next;

        Outline(Tokens tokens) {
            this.tokens = tokens;
        }

        /** Reads all ITEMS; answers the place of a FAULT of kind 1, or NONE. */
        int firstBad() {
            forget();
            for (int n = 0; n < ROOM && tokens.kindAt(next) != Kind.END; n++) {
                if (!readItem()) {
                    return tokens.place[next];
                }
                end[items - 1] = next;
            }
            findMeanings();
            return NONE;
        }

        private void forget() {
            for (int i = 0; i < SORTS; i++) {
                told[i] = 0;
            }
            told[RESOURCES] = 1;
            items = 0;
            next = 0;
        }

        private boolean readItem() {
            switch (tokens.kindAt(next)) {
                case MODE:
                    return eatTold(MODES);
                case EVENT:
                    return eatTold(EVENTS);
                case RESOURCE:
                    return eatTold(RESOURCES) && eatResourceEnd();
                case COUNTER:
                    return eatTold(COUNTERS) && eatNumber(Kind.MAX, Role.MAX)
                            && eatNumber(Kind.BASE, Role.BASE) && eatNumber(Kind.LEAST, Role.LEAST);
                case TASK:
                    return eatTold(TASKS) && eatNumber(Kind.PRIORITY, Role.PRIORITY) && eatParts();
                case ISR:
                    return eatTold(ISRS) && eatNumber(Kind.LEVEL, Role.LEVEL) && eatIsrUses();
                case ALARM:
                    return eatTold(ALARMS) && eat(Kind.ON, Role.WORD) && eat(Kind.NAME, Role.ON)
                            && eatAction() && eatAlarmAuto();
                default:
                    return false;
            }
        }

        private boolean eatTold(int which) {
            sort[items] = which;
            number[items] = told[which];
            nameAt[items] = next + 1;
            told[which]++;
            items++;
            return eat(tokens.kindAt(next), Role.WORD) && eat(Kind.NAME, Role.TELLS);
        }

        private boolean eatResourceEnd() {
            if (eat(Kind.INTERNAL, Role.WORD)) {
                return true;
            }
            return !eat(Kind.AS, Role.WORD) || eat(Kind.NAME, Role.AS);
        }

        private boolean eatParts() {
            boolean fits = true;
            boolean more = true;
            for (int n = 0; n < Tokens.ROOM && fits && more; n++) {
                Kind part = tokens.kindAt(next);
                switch (part) {
                    case WHOLE:
                        fits = eat(part, Role.PART);
                        break;
                    case LIMIT:
                        fits = eat(part, Role.PART) && eat(Kind.NUMBER, Role.LIMIT);
                        break;
                    case AUTO:
                        fits = eat(part, Role.PART) && eatNames(Role.AUTO);
                        break;
                    case USES:
                        fits = eat(part, Role.PART) && eatNames(Role.USES);
                        break;
                    case WAITS:
                        fits = eat(part, Role.PART) && eatNames(Role.WAITS);
                        break;
                    default:
                        more = false;
                        break;
                }
            }
            return fits;
        }

        private boolean eatIsrUses() {
            return !eat(Kind.USES, Role.WORD) || eatNames(Role.USES);
        }

        private boolean eatAction() {
            if (eat(Kind.STARTS, Role.WORD)) {
                return eat(Kind.NAME, Role.STARTS);
            }
            if (eat(Kind.SETS, Role.WORD)) {
                return eat(Kind.NAME, Role.SETS) && eat(Kind.NAME, Role.EVENT);
            }
            return eat(Kind.CALLS, Role.WORD);
        }

        private boolean eatAlarmAuto() {
            if (!eat(Kind.AUTO, Role.WORD)) {
                return true;
            }
            return eatNames(Role.AUTO) && eatNumber(Kind.IN, Role.IN)
                    && (tokens.kindAt(next) != Kind.EVERY || eatNumber(Kind.EVERY, Role.EVERY));
        }

        private boolean eatNumber(Kind word, Role as) {
            return eat(word, Role.WORD) && eat(Kind.NUMBER, as);
        }

        private boolean eatNames(Role as) {
            boolean fits = eat(Kind.NAME, as);
            for (int n = 0; n < Tokens.ROOM && fits && eat(Kind.COMMA, Role.WORD); n++) {
                fits = eat(Kind.NAME, as);
            }
            return fits;
        }

        /** Goes on behind the next token, if that is of the wanted kind. */
        private boolean eat(Kind wanted, Role as) {
            if (tokens.kindAt(next) != wanted) {
                return false;
            }
            role[next] = as;
            owner[next] = items - 1;
            next++;
            return true;
        }

        private void findMeanings() {
            for (int i = 0; i < next; i++) {
                means[i] = tokens.kind[i] == Kind.NAME ? firstTelling(i) : NONE;
            }
        }

        private int firstTelling(int i) {
            for (int item = 0; item < items; item++) {
                if (tokens.isSameName(nameAt[item], i)) {
                    return item;
                }
            }
            return NONE;
        }

        /** The first token of a ROLE in an ITEM, or NONE. */
        int find(int item, Role wanted) {
            if (item == NONE) {
                return NONE;
            }
            for (int i = nameAt[item]; i < end[item]; i++) {
                if (role[i] == wanted) {
                    return i;
                }
            }
            return NONE;
        }

        boolean says(int item, Kind word) {
            if (item == NONE) {
                return false;
            }
            for (int i = nameAt[item]; i < end[item]; i++) {
                if (tokens.kind[i] == word) {
                    return true;
                }
            }
            return false;
        }

        int valueOf(int item, Role wanted, int otherwise) {
            int i = find(item, wanted);
            return i == NONE ? otherwise : tokens.value[i];
        }

        /** The ITEM that the NAME of a ROLE means, or NONE. */
        int itemOf(int item, Role wanted) {
            int i = find(item, wanted);
            return i == NONE ? NONE : means[i];
        }

        /** The number of the thing that the NAME of a ROLE means, or NONE. */
        int numberOf(int item, Role wanted) {
            int meant = itemOf(item, wanted);
            return meant == NONE ? NONE : number[meant];
        }

        /** The numbers of all things that the NAMES of a ROLE mean, as bits. */
        int bitsOf(int item, Role wanted) {
            int found = 0;
            for (int i = nameAt[item]; i < end[item]; i++) {
                if (role[i] == wanted && means[i] != NONE) {
                    found |= 1 << number[means[i]];
                }
            }
            return found;
        }
    }

    /** The FAULT of the latest build(). */
    private static final class Faults {
        private final Outline outline;
        private final Tokens tokens;
        int kind;
        int place = NONE;

        Faults(Outline outline) {
            this.outline = outline;
            this.tokens = outline.tokens;
        }

        /** Looks for the FAULT, if none of kind 1 is at the place told. */
        void look(int bad) {
            kind = bad == NONE ? 0 : 1;
            place = bad;
            for (int i = 0; i < outline.next && kind == 0; i++) {
                kind = kindOf(i);
                if (kind != 0) {
                    place = tokens.place[i];
                }
            }
        }

        private int kindOf(int i) {
            if (isTwice(i)) {
                return TWICE;
            }
            if (isUnknown(i)) {
                return UNKNOWN;
            }
            if (isOutOfRange(i)) {
                return RANGE;
            }
            if (breaksRule(i)) {
                return RULE;
            }
            return isTooMuch(i) ? FULL : 0;
        }

        private boolean isTwice(int i) {
            switch (outline.role[i]) {
                case TELLS:
                    return outline.means[i] != outline.owner[i];
                case PART:
                    return isPartAhead(i);
                case AUTO:
                case USES:
                case WAITS:
                    return isNameAhead(i);
                default:
                    return false;
            }
        }

        private boolean isPartAhead(int i) {
            for (int j = outline.nameAt[outline.owner[i]]; j < i; j++) {
                if (outline.role[j] == Role.PART && tokens.kind[j] == tokens.kind[i]) {
                    return true;
                }
            }
            return false;
        }

        /** Goes back from comma to comma, so that it stays in these NAMES. */
        private boolean isNameAhead(int i) {
            for (int j = i - 2; j >= 0 && tokens.kind[j + 1] == Kind.COMMA; j -= 2) {
                if (tokens.isSameName(i, j)) {
                    return true;
                }
            }
            return false;
        }

        private boolean isUnknown(int i) {
            int wanted = outline.role[i].wanted;
            if (wanted == NONE) {
                return false;
            }
            int meant = outline.means[i];
            return meant == NONE || outline.sort[meant] != wanted;
        }

        private boolean isOutOfRange(int i) {
            int item = outline.owner[i];
            int value = tokens.value[i];
            switch (outline.role[i]) {
                case PRIORITY:
                    return value > PRIORITY_MOST;
                case LIMIT:
                    return value < 1 || value > LIMIT_MOST;
                case MAX:
                    return value == 0;
                case BASE:
                    return value < 1 || value > BASE_MOST;
                case LEAST:
                    return value < 1 || value > outline.valueOf(item, Role.MAX, 0);
                case LEVEL:
                    return value < 1 || value > LEVEL_MOST;
                case IN:
                    return value < 1 || value > ofCounter(item, Role.MAX);
                case EVERY:
                    return value != 0 && (value < ofCounter(item, Role.LEAST)
                            || value > ofCounter(item, Role.MAX));
                default:
                    return false;
            }
        }

        /** A number of the counter that an alarm is on. */
        private int ofCounter(int alarm, Role wanted) {
            return outline.valueOf(outline.itemOf(alarm, Role.ON), wanted, 0);
        }

        private boolean breaksRule(int i) {
            int item = outline.owner[i];
            int meant = outline.means[i];
            switch (outline.role[i]) {
                case LIMIT:
                    return tokens.value[i] > 1 && outline.says(item, Kind.WAITS);
                case USES:
                    return isInternal(meant)
                            && (outline.sort[item] == ISRS || isInternalAhead(item, i));
                case AS:
                    return isInternal(meant) || isEndless(meant);
                case EVENT:
                    return !waitsFor(outline.itemOf(item, Role.SETS), meant);
                default:
                    return false;
            }
        }

        private boolean isInternal(int item) {
            return outline.says(item, Kind.INTERNAL);
        }

        private boolean isInternalAhead(int item, int i) {
            for (int j = outline.nameAt[item]; j < i; j++) {
                if (outline.role[j] == Role.USES && isInternal(outline.means[j])) {
                    return true;
                }
            }
            return false;
        }

        /** More steps by as than there are ITEMS go in a ring. */
        private boolean isEndless(int item) {
            int here = item;
            for (int n = 0; n <= outline.items && here != NONE; n++) {
                here = outline.itemOf(here, Role.AS);
            }
            return here != NONE;
        }

        private boolean waitsFor(int task, int event) {
            if (task == NONE) {
                return false;
            }
            for (int j = outline.nameAt[task]; j < outline.end[task]; j++) {
                if (outline.role[j] == Role.WAITS && outline.means[j] == event) {
                    return true;
                }
            }
            return false;
        }

        private boolean isTooMuch(int i) {
            if (outline.role[i] != Role.TELLS) {
                return false;
            }
            int item = outline.owner[i];
            return outline.number[item] >= MOST[outline.sort[item]];
        }
    }

    /** All things of a PLAN, with the state of each. */
    private static final class Plan {
        final int[] told = new int[SORTS];
        private final long[][] nameHigh = new long[SORTS][THINGS_MOST];
        private final long[][] nameLow = new long[SORTS][THINGS_MOST];
        final Worker[] tasks = new Worker[TASKS_MOST];
        final Worker[] isrs = new Worker[ISRS_MOST];
        final Counter[] counters = new Counter[COUNTERS_MOST];
        final Alarm[] alarms = new Alarm[ALARMS_MOST];
        final int[] ceiling = new int[RESOURCES_MOST];
        final int[] leastOfGroup = new int[RESOURCES_MOST];
        final boolean[] internal = new boolean[RESOURCES_MOST];
        private final int[] as = new int[RESOURCES_MOST];

        Plan() {
            told[RESOURCES] = 1;
            ceiling[SCHEDULER] = NONE;
            as[SCHEDULER] = NONE;
            for (int i = 0; i < TASKS_MOST; i++) {
                tasks[i] = new Worker();
            }
            for (int i = 0; i < ISRS_MOST; i++) {
                isrs[i] = new Worker();
            }
            for (int i = 0; i < COUNTERS_MOST; i++) {
                counters[i] = new Counter();
            }
            for (int i = 0; i < ALARMS_MOST; i++) {
                alarms[i] = new Alarm();
            }
        }

        /** Takes over an Outline without a FAULT; the kernel is off, so that all things are at rest. */
        void fill(Outline outline) {
            for (int sort = 0; sort < SORTS; sort++) {
                told[sort] = Math.min(outline.told[sort], MOST[sort]);
            }
            for (int item = 0; item < outline.items; item++) {
                if (has(outline.sort[item], outline.number[item])) {
                    fillThing(outline, item, outline.number[item]);
                }
            }
            findGroups();
            findInternals();
            findCeilings();
        }

        private void fillThing(Outline outline, int item, int i) {
            int sort = outline.sort[item];
            nameHigh[sort][i] = outline.tokens.high[outline.nameAt[item]];
            nameLow[sort][i] = outline.tokens.low[outline.nameAt[item]];
            switch (sort) {
                case RESOURCES:
                    internal[i] = outline.says(item, Kind.INTERNAL);
                    as[i] = outline.numberOf(item, Role.AS);
                    break;
                case COUNTERS:
                    counters[i].fill(outline, item);
                    break;
                case TASKS:
                    tasks[i].fillTask(outline, item);
                    break;
                case ISRS:
                    isrs[i].fillIsr(outline, item);
                    break;
                case ALARMS:
                    alarms[i].fill(outline, item);
                    break;
                default:
                    break;
            }
        }

        private void findGroups() {
            for (int r = 0; r < told[RESOURCES]; r++) {
                leastOfGroup[r] = r;
                for (int other = r - 1; other >= 0; other--) {
                    if (endOfAs(other) == endOfAs(r)) {
                        leastOfGroup[r] = other;
                    }
                }
            }
        }

        private int endOfAs(int r) {
            int here = r;
            for (int n = 0; n < RESOURCES_MOST && as[here] != NONE; n++) {
                here = as[here];
            }
            return here;
        }

        private void findInternals() {
            for (int t = 0; t < told[TASKS]; t++) {
                for (int r = 0; r < told[RESOURCES]; r++) {
                    if (internal[r] && tasks[t].usesResource(r)) {
                        tasks[t].internal = r;
                    }
                }
            }
        }

        private void findCeilings() {
            for (int r = 0; r < told[RESOURCES]; r++) {
                ceiling[r] = NONE;
            }
            for (int t = 0; t < told[TASKS]; t++) {
                raiseCeilings(tasks[t]);
                ceiling[SCHEDULER] = Math.max(ceiling[SCHEDULER], tasks[t].priority);
            }
            for (int i = 0; i < told[ISRS]; i++) {
                raiseCeilings(isrs[i]);
            }
        }

        private void raiseCeilings(Worker user) {
            for (int r = 0; r < told[RESOURCES]; r++) {
                for (int used = 0; used < told[RESOURCES]; used++) {
                    if (user.usesResource(used) && leastOfGroup[used] == leastOfGroup[r]) {
                        ceiling[r] = Math.max(ceiling[r], user.priority);
                    }
                }
            }
        }

        /** All is as when the kernel goes off. */
        void rest() {
            for (int t = 0; t < told[TASKS]; t++) {
                tasks[t].rest();
            }
            for (int i = 0; i < told[ISRS]; i++) {
                isrs[i].rest();
            }
            for (int c = 0; c < told[COUNTERS]; c++) {
                counters[c].waiting = 0;
            }
            for (int a = 0; a < told[ALARMS]; a++) {
                alarms[a].inUse = false;
            }
        }

        boolean has(int sort, int i) {
            return sort >= 0 && sort < SORTS && i >= 0 && i < told[sort];
        }

        boolean isTakeable(int r) {
            return has(RESOURCES, r) && !internal[r];
        }

        long nameBytes(int sort, int i, int k) {
            long high = nameHigh[sort][i];
            long low = nameLow[sort][i];
            if (k == 0) {
                return high;
            }
            if (k < 8) {
                return high << 8 * k | low >>> 64 - 8 * k;
            }
            return k < NAME_MOST ? low << 8 * (k - 8) : 0;
        }

        int currentPriority(Worker worker) {
            int greatest = worker.priority;
            for (int i = 0; i < worker.heldCount; i++) {
                greatest = Math.max(greatest, ceiling[worker.held[i]]);
            }
            if (worker.hasInternal && worker.internal != NONE) {
                greatest = Math.max(greatest, ceiling[worker.internal]);
            }
            return greatest;
        }

        /** Who has a resource: the least task, else 100 + the least ISR, else NONE. */
        int holder(int r) {
            for (int t = 0; t < told[TASKS]; t++) {
                if (tasks[t].hasResource(r)) {
                    return t;
                }
            }
            for (int i = 0; i < told[ISRS]; i++) {
                if (isrs[i].hasResource(r)) {
                    return ISR_OFFSET + i;
                }
            }
            return NONE;
        }

        int holders(int r) {
            int found = 0;
            for (int t = 0; t < told[TASKS]; t++) {
                found += tasks[t].hasResource(r) ? 1 : 0;
            }
            for (int i = 0; i < told[ISRS]; i++) {
                found += isrs[i].hasResource(r) ? 1 : 0;
            }
            return found;
        }

        int stepsToAlarm(int a) {
            Alarm alarm = alarms[a];
            return counters[alarm.counter].stepsTo(alarm.due);
        }

        int allRequests() {
            int all = 0;
            for (int t = 0; t < told[TASKS]; t++) {
                all += tasks[t].requests;
            }
            return all;
        }
    }

    /**
     * A task or an ISR. Of a task's REQUESTS only one can ever have been RUNNING, and that one lies
     * ahead of the others: so what a REQUEST has is kept here, once.
     */
    private static final class Worker {
        int priority = NONE;
        boolean whole;
        int limit;
        int events;
        int modes;
        private int uses;
        int internal = NONE;

        int requests;
        boolean waits;
        int waitsFor;
        int set;
        boolean hasInternal;
        boolean called;
        final int[] held = new int[RESOURCES_MOST];
        int heldCount;

        void fillTask(Outline outline, int item) {
            priority = outline.valueOf(item, Role.PRIORITY, 0);
            whole = outline.says(item, Kind.WHOLE);
            limit = outline.valueOf(item, Role.LIMIT, 1);
            events = outline.bitsOf(item, Role.WAITS);
            modes = outline.bitsOf(item, Role.AUTO);
            uses = outline.bitsOf(item, Role.USES);
            internal = NONE;
        }

        void fillIsr(Outline outline, int item) {
            priority = PRIORITY_MOST + outline.valueOf(item, Role.LEVEL, 1);
            uses = outline.bitsOf(item, Role.USES);
        }

        void rest() {
            requests = 0;
            waits = false;
            waitsFor = 0;
            set = 0;
            hasInternal = false;
            called = false;
            heldCount = 0;
        }

        boolean usesResource(int r) {
            return (uses >>> r & 1) != 0;
        }

        boolean isAtLimit() {
            return requests >= limit;
        }

        boolean hasResource(int r) {
            for (int i = 0; i < heldCount; i++) {
                if (held[i] == r) {
                    return true;
                }
            }
            return hasInternal && internal == r;
        }

        void hold(int r) {
            if (heldCount < held.length) {
                held[heldCount] = r;
                heldCount++;
            }
        }

        int lastHeld() {
            return heldCount > 0 ? held[heldCount - 1] : NONE;
        }
    }

    /** A counter. */
    private static final class Counter {
        int max = 1;
        int base = 1;
        int least = 1;
        int value;
        int ticks;
        int waiting;

        void fill(Outline outline, int item) {
            max = outline.valueOf(item, Role.MAX, 1);
            base = outline.valueOf(item, Role.BASE, 1);
            least = outline.valueOf(item, Role.LEAST, 1);
            zero();
        }

        void zero() {
            value = 0;
            ticks = 0;
        }

        /** One TICK; answers whether VALUE made a step. */
        boolean advance() {
            ticks++;
            if (ticks < base) {
                return false;
            }
            ticks = 0;
            value = valueBehind(1);
            return true;
        }

        /** The VALUE that comes so many steps (0 .. max) behind the one now. */
        int valueBehind(int steps) {
            int sum = value + steps;
            return sum > max ? sum - max - 1 : sum;
        }

        /** In how many steps (1 .. max + 1) VALUE comes to a due. */
        int stepsTo(int due) {
            return due > value ? due - value : due - value + max + 1;
        }

        boolean allowsEvery(int every) {
            return every == 0 || every >= least && every <= max;
        }
    }

    /** An alarm. */
    private static final class Alarm {
        int counter;
        int task = NONE;
        int event = NONE;
        int modes;
        int autoIn;
        int autoEvery;
        boolean inUse;
        int due;
        int every;

        void fill(Outline outline, int item) {
            counter = outline.numberOf(item, Role.ON);
            event = outline.numberOf(item, Role.EVENT);
            task = outline.numberOf(item, event == NONE ? Role.STARTS : Role.SETS);
            modes = outline.bitsOf(item, Role.AUTO);
            autoIn = outline.valueOf(item, Role.IN, 0);
            autoEvery = outline.valueOf(item, Role.EVERY, 0);
        }

        void use(int newDue, int newEvery) {
            inUse = true;
            due = newDue;
            every = newEvery;
        }
    }

    /** All ROWS in one, the TOP at its end, the last one of the lowest ROW at its begin. */
    private static final class Rows {
        private static final int ROOM = TASKS_MOST * LIMIT_MOST;

        private final int[] rowOf = new int[ROOM];
        private final int[] taskOf = new int[ROOM];
        int size;

        /** Puts a REQUEST ahead of the first one of a ROW, or behind the last one of it. */
        void put(int task, int priority, boolean ahead) {
            if (size >= ROOM) {
                return;
            }
            int least = ahead ? priority + 1 : priority;
            int spot = size;
            while (spot > 0 && rowOf[spot - 1] >= least) {
                rowOf[spot] = rowOf[spot - 1];
                taskOf[spot] = taskOf[spot - 1];
                spot--;
            }
            rowOf[spot] = priority;
            taskOf[spot] = task;
            size++;
        }

        /** The ROW in which the TOP lies, NONE without one. */
        int topRow() {
            return size > 0 ? rowOf[size - 1] : NONE;
        }

        /** Takes the TOP out, of which there must be one. */
        int takeTop() {
            size--;
            return taskOf[size];
        }

        int taskAt(int priority, int i) {
            int ahead = 0;
            for (int spot = size - 1; spot >= 0; spot--) {
                if (rowOf[spot] == priority) {
                    if (ahead == i) {
                        return taskOf[spot];
                    }
                    ahead++;
                }
            }
            return NONE;
        }
    }

    /** What is at work, and how that changes. */
    private static final class Machine {
        private final Plan plan;
        final Rows rows = new Rows();
        boolean on;
        int mode = NONE;
        int shutDepth;
        /** The RUNNING task. */
        int current = NONE;
        private final int[] begun = new int[ISRS_MOST];
        int begunCount;
        private final int[] notes = new int[NOTES_MOST];
        int noted;
        int unsettled;
        int doubleHad;
        /** Stands for what is at work when nobody is: below all PRIORITIES. */
        private final Worker nobody = new Worker();

        Machine(Plan plan) {
            this.plan = plan;
        }

        void forgetNotes() {
            noted = 0;
            unsettled = 0;
            doubleHad = 0;
        }

        void goOn(int newMode) {
            on = true;
            mode = newMode;
            forgetNotes();
            keepNote(NOTE_START + newMode);
            for (int c = 0; c < plan.told[COUNTERS]; c++) {
                plan.counters[c].zero();
            }
            startTasks();
            startAlarms();
        }

        private void startTasks() {
            for (int t = 0; t < plan.told[TASKS]; t++) {
                if ((plan.tasks[t].modes >>> mode & 1) != 0) {
                    request(t);
                }
            }
        }

        private void startAlarms() {
            for (int a = 0; a < plan.told[ALARMS]; a++) {
                Alarm alarm = plan.alarms[a];
                if ((alarm.modes >>> mode & 1) != 0) {
                    alarm.use(plan.counters[alarm.counter].valueBehind(alarm.autoIn), alarm.autoEvery);
                }
            }
        }

        void goOff() {
            on = false;
            mode = NONE;
            shutDepth = 0;
            current = NONE;
            begunCount = 0;
            rows.size = 0;
            plan.rest();
        }

        // ---- who is at work

        int lastBegun() {
            return begunCount > 0 ? begun[begunCount - 1] : NONE;
        }

        Worker worker() {
            if (begunCount > 0) {
                return plan.isrs[begun[begunCount - 1]];
            }
            return current != NONE ? plan.tasks[current] : nobody;
        }

        boolean isIdle() {
            return !on || begunCount == 0 && current == NONE;
        }

        int placeAmongBegun(int i) {
            for (int place = 0; place < begunCount; place++) {
                if (begun[place] == i) {
                    return place;
                }
            }
            return NONE;
        }

        int stateOf(int t) {
            if (t == current) {
                return RUNNING;
            }
            if (plan.tasks[t].waits) {
                return WAITING;
            }
            return plan.tasks[t].requests > 0 ? READY : SUSPENDED;
        }

        // ---- the statuses that several services share

        int entry() {
            if (isIdle()) {
                return NOBODY;
            }
            return shutDepth > 0 ? SHUT : DONE;
        }

        private int taskEntry() {
            int status = entry();
            if (status != DONE) {
                return status;
            }
            return begunCount > 0 ? LEVEL : DONE;
        }

        /** Of a service for a task that has no resource. */
        int freeTaskEntry() {
            int status = taskEntry();
            if (status != DONE) {
                return status;
            }
            return worker().heldCount > 0 ? RESOURCE : DONE;
        }

        /** Of a service for a task that is not BASIC. */
        int extendedTaskEntry() {
            int status = taskEntry();
            if (status != DONE) {
                return status;
            }
            return worker().events == 0 ? ACCESS : DONE;
        }

        /** Of a service for the EVENTS of some task. */
        int eventEntry(int t) {
            int status = entry();
            if (status != DONE) {
                return status;
            }
            if (!plan.has(TASKS, t)) {
                return NUMBER;
            }
            if (plan.tasks[t].events == 0) {
                return ACCESS;
            }
            return plan.tasks[t].requests == 0 ? STATE : DONE;
        }

        /** What is due behind each service. */
        int finish(int service, int status) {
            if (status != DONE && status != NOBODY) {
                keepNote(NOTE_STATUS + 100 * service + status);
            }
            settle();
            audit();
            return status;
        }

        // ---- SETTLING

        void settle() {
            if (!on || shutDepth > 0) {
                return;
            }
            // One ISR is enough: of those left none is above the greatest.
            int i = greatestCalled();
            if (i != NONE && begunCount < ISRS_MOST) {
                plan.isrs[i].called = false;
                begun[begunCount] = i;
                begunCount++;
                keepNote(NOTE_BEGINS + i);
            }
            if (begunCount == 0 && isTopDue()) {
                runTop();
            }
        }

        /** The CALLED ISR that is to begin, or NONE; it is never one that is begun: those are not above. */
        private int greatestCalled() {
            int greatest = plan.currentPriority(worker());
            int found = NONE;
            for (int i = 0; i < plan.told[ISRS]; i++) {
                Worker isr = plan.isrs[i];
                if (isr.called && isr.priority > greatest) {
                    greatest = isr.priority;
                    found = i;
                }
            }
            return found;
        }

        private boolean isTopDue() {
            if (current == NONE) {
                return rows.size > 0;
            }
            Worker task = plan.tasks[current];
            return !task.whole && rows.topRow() > plan.currentPriority(task);
        }

        /** The RUNNING task, if there is one, is PREEMPTED; the TOP, which lies above it, becomes RUNNING. */
        private void runTop() {
            if (current != NONE) {
                rows.put(current, plan.currentPriority(plan.tasks[current]), true);
                keepNote(NOTE_STOPS + current);
            }
            current = rows.takeTop();
            Worker task = plan.tasks[current];
            task.hasInternal = task.internal != NONE;
            keepNote(NOTE_RUNS + current);
        }

        /** Counts what the document says is never so; a call that changes nothing of it may ask at its begin. */
        void audit() {
            if (shutDepth > 0 || begunCount > 0) {
                return;
            }
            if (isTopDue()) {
                unsettled++;
            }
            for (int r = 0; r < plan.told[RESOURCES]; r++) {
                if (!plan.internal[r] && plan.holders(r) > 1) {
                    doubleHad++;
                }
            }
        }

        // ---- what services and alarms do

        /** A task gets a REQUEST, or the status LIMIT is answered. */
        int request(int t) {
            Worker task = plan.tasks[t];
            if (task.isAtLimit()) {
                return LIMIT;
            }
            if (task.requests == 0) {
                task.set = 0;
            }
            task.requests++;
            rows.put(t, task.priority, false);
            return DONE;
        }

        /** The REQUEST that is RUNNING is through. */
        void endRequest() {
            plan.tasks[current].requests--;
            stopRunning();
        }

        /** The RUNNING task gives its internal resource, and is RUNNING no more. */
        private void stopRunning() {
            plan.tasks[current].hasInternal = false;
            keepNote(NOTE_STOPS + current);
            current = NONE;
        }

        void yieldToTop() {
            Worker task = plan.tasks[current];
            if (rows.topRow() > task.priority) {
                task.hasInternal = false;
                runTop();
            }
        }

        void waitFor(int mask) {
            Worker task = plan.tasks[current];
            if ((task.set & mask) == 0) {
                task.waits = true;
                task.waitsFor = task.events & mask;
                stopRunning();
            }
        }

        /** EVENTS of a task become SET, or the status STATE is answered. */
        int setEvents(int t, int mask) {
            Worker task = plan.tasks[t];
            if (task.requests == 0) {
                return STATE;
            }
            task.set |= task.events & mask;
            if (task.waits && (task.set & task.waitsFor) != 0) {
                task.waits = false;
                task.waitsFor = 0;
                rows.put(t, task.priority, false);
            }
            return DONE;
        }

        void endIsr() {
            keepNote(NOTE_ENDS + lastBegun());
            begunCount--;
        }

        // ---- TICKS

        int tickTimes(int c, int n) {
            int met = 0;
            for (int i = 0; i < n; i++) {
                if (plan.counters[c].advance()) {
                    met += meetAlarms(c);
                }
                settle();
            }
            return met;
        }

        private int meetAlarms(int c) {
            int value = plan.counters[c].value;
            int met = 0;
            for (int a = 0; a < plan.told[ALARMS]; a++) {
                Alarm alarm = plan.alarms[a];
                if (alarm.counter == c && alarm.inUse && alarm.due == value) {
                    met++;
                    meet(a);
                }
            }
            return met;
        }

        private void meet(int a) {
            Alarm alarm = plan.alarms[a];
            keepNote(NOTE_MET + a);
            int status = DONE;
            if (alarm.event != NONE) {
                status = setEvents(alarm.task, 1 << alarm.event);
            } else if (alarm.task != NONE) {
                status = request(alarm.task);
            }
            if (status != DONE) {
                keepNote(NOTE_STATUS + 100 * BY_ALARM + status);
            }
            alarm.inUse = alarm.every != 0;
            alarm.due = plan.counters[alarm.counter].valueBehind(alarm.every);
        }

        // ---- NOTES

        void keepNote(int number) {
            notes[noted % NOTES_MOST] = number;
            noted++;
        }

        int keptNotes() {
            return Math.min(noted, NOTES_MOST);
        }

        int latestNote(int k) {
            return notes[(noted - 1 - k) % NOTES_MOST];
        }
    }
}
