/** Promises 7 to 17: start, and the services of tasks, resources and events. */
final class ServiceTest {
    private static final int NONE = StaticKernel.NONE;

    public static void main(String[] args) {
        startStatuses();
        startInEachMode();
        startAgain();
        activateStatuses();
        activatePreempts();
        requestsQueue();
        wholeTasks();
        terminateStatuses();
        chainStatuses();
        chainToItself();
        chainToAnother();
        scheduleStatuses();
        scheduleOfWholeTask();
        scheduleGivesTheInternalResource();
        takeStatuses();
        takeRaisesThePriority();
        takeTheScheduler();
        takeInAnIsr();
        giveStatuses();
        preemptedComesFirstInItsRow();
        internalResources();
        signalStatuses();
        signalWakes();
        clearStatuses();
        awaitStatuses();
        awaitGivesTheInternalResource();
        awaitNothing();
        givenStatuses();
        allThirtyTwoEvents();
        Check.end("ServiceTest");
    }

    private static void startStatuses() {
        StaticKernel kernel = Check.built("mode a mode b task t priority 1 auto a");
        Check.same("no mode 2", kernel.start(2), 3);
        Check.same("no mode -1", kernel.start(-1), 3);
        Check.same("no mode", kernel.start(Integer.MAX_VALUE), 3);
        Check.same("not noted", kernel.count(6), 0);
        Check.same("off", kernel.count(1), 0);
        Check.same("start", kernel.start(1), 0);
        Check.same("on", kernel.count(1), 1);
        Check.same("mode", kernel.count(2), 1);
        Check.same("idle", kernel.atWork(), NONE);
        Check.same("not off", kernel.start(0), 7);
        Check.same("not off, and no such mode", kernel.start(9), 7);
        Check.same("mode stays", kernel.count(2), 1);
        Check.notes("start in mode 1", kernel, 70001);
    }

    private static void startInEachMode() {
        String plan = "mode a mode b counter c max 9 base 1 least 1 task t priority 1 auto b task u priority 5 auto a,b"
                + " task v priority 5 auto b alarm x on c calls auto a in 4 alarm y on c calls auto b in 9 every 3"
                + " alarm z on c calls auto a,b in 1 every 0 alarm w on c calls";
        StaticKernel kernel = Check.built(plan);
        Check.same("start a", kernel.start(0), 0);
        Check.same("u runs", kernel.running(), 1);
        Check.same("requests", kernel.count(5), 1);
        Check.same("x", kernel.alarm(0, 0), 4);
        Check.same("x every", kernel.alarm(0, 1), 0);
        Check.same("y", kernel.alarm(1, 0), NONE);
        Check.same("z", kernel.alarm(2, 0), 1);
        Check.same("w", kernel.alarm(3, 0), NONE);
        Check.notes("mode a", kernel, 70000, 10001);
        kernel.halt(0);
        Check.same("start b", kernel.start(1), 0);
        Check.same("u runs, as it came first", kernel.running(), 1);
        Check.same("v behind it", kernel.row(5, 0), 2);
        Check.same("t", kernel.row(1, 0), 0);
        Check.same("x", kernel.alarm(0, 0), NONE);
        Check.same("y", kernel.alarm(1, 0), 9);
        Check.same("y every", kernel.alarm(1, 1), 3);
        Check.notes("mode b", kernel, 70001, 10001);
    }

    private static void startAgain() {
        StaticKernel kernel = Check.started("mode a counter c max 9 base 3 least 1 task t priority 1 auto a limit 2");
        kernel.tick(0, 8);
        kernel.activate(0);
        kernel.shut();
        kernel.tick(0, 5);
        kernel.shut();
        Check.same("halt", kernel.halt(1), 0);
        Check.same("value stays", kernel.counter(0, 0), 2);
        Check.same("ticks stay", kernel.counter(0, 1), 2);
        Check.same("none wait", kernel.counter(0, 2), 0);
        Check.same("shut", kernel.count(3), 0);
        Check.same("start", kernel.start(0), 0);
        Check.same("value", kernel.counter(0, 0), 0);
        Check.same("ticks", kernel.counter(0, 1), 0);
        Check.same("requests", kernel.count(5), 1);
        Check.notes("nothing else is noted", kernel, 70000, 10000);
    }

    private static void activateStatuses() {
        StaticKernel kernel = Check.built("mode a mode b task t priority 1 auto a task u priority 0 limit 2");
        Check.same("off", kernel.activate(0), 10);
        Check.same("off, no such", kernel.activate(9), 10);
        kernel.start(1);
        Check.same("nobody", kernel.activate(0), 10);
        Check.notes("10 is not noted", kernel, 70001);
        Check.same("nobody can halt", kernel.halt(0), 10);
        StaticKernel on = Check.started("mode a task t priority 1 auto a task u priority 0 limit 2");
        Check.same("no task 2", on.activate(2), 3);
        Check.same("no task -1", on.activate(-1), 3);
        Check.same("its own limit", on.activate(0), 4);
        Check.same("u", on.activate(1), 0);
        Check.same("u", on.activate(1), 0);
        Check.same("u's limit", on.activate(1), 4);
        Check.same("requests", on.task(1, 1), 2);
        on.shut();
        Check.same("shut", on.activate(1), 9);
        Check.same("shut, no such", on.activate(9), 9);
        Check.notes("statuses", on, 70000, 10000, 30103, 30103, 30104, 30104, 30109, 30109);
    }

    private static void activatePreempts() {
        StaticKernel kernel = Check.started("mode a task low priority 3 auto a task like priority 3 task high priority 4");
        Check.same("like", kernel.activate(1), 0);
        Check.same("low runs on", kernel.running(), 0);
        Check.same("high", kernel.activate(2), 0);
        Check.same("high runs", kernel.running(), 2);
        Check.same("low is first", kernel.row(3, 0), 0);
        Check.same("like is second", kernel.row(3, 1), 1);
        Check.same("no third", kernel.row(3, 2), NONE);
        Check.same("state of low", kernel.task(0, 0), 1);
        kernel.terminate();
        Check.same("low again", kernel.running(), 0);
        kernel.terminate();
        Check.same("then like", kernel.running(), 1);
        Check.notes("all", kernel, 70000, 10000, 20000, 10002, 20002, 10000, 20000, 10001);
    }

    private static void requestsQueue() {
        StaticKernel kernel = Check.started("mode a task t priority 2 auto a limit 3 task u priority 2 limit 8");
        kernel.activate(1);
        kernel.activate(0);
        kernel.activate(1);
        kernel.activate(0);
        int[] due = {1, 0, 1, 0};
        for (int i = 0; i < due.length; i++) {
            Check.same("row " + i, kernel.row(2, i), due[i]);
        }
        Check.same("t's requests", kernel.task(0, 1), 3);
        Check.same("all requests", kernel.count(5), 5);
        int[] order = {1, 0, 1, 0};
        for (int t : order) {
            kernel.terminate();
            Check.same("runs", kernel.running(), t);
        }
        kernel.terminate();
        Check.same("idle", kernel.running(), NONE);
    }

    private static void wholeTasks() {
        StaticKernel kernel = Check.started("mode a task t priority 1 whole auto a task u priority 9 task v priority 5");
        kernel.activate(2);
        kernel.activate(1);
        Check.same("it is preempted by no task", kernel.running(), 0);
        Check.same("count(7)", kernel.count(7), 0);
        kernel.terminate();
        Check.same("the highest", kernel.running(), 1);
        Check.same("whole", kernel.task(0, 6), 1);
        Check.same("not whole", kernel.task(1, 6), 0);
    }

    private static void terminateStatuses() {
        StaticKernel kernel = Check.started("mode a resource r task t priority 1 auto a uses r isr i level 1");
        kernel.take(1);
        kernel.call(0);
        Check.same("an isr, with a resource below", kernel.terminate(), 2);
        kernel.leave();
        Check.same("a resource", kernel.terminate(), 6);
        kernel.shut();
        Check.same("shut", kernel.terminate(), 9);
        kernel.open();
        kernel.give(1);
        Check.same("done", kernel.terminate(), 0);
        Check.same("suspended", kernel.task(0, 0), 0);
        Check.same("no requests", kernel.count(5), 0);
        Check.same("nobody", kernel.terminate(), 10);
        Check.notes("all", kernel, 70000, 10000, 50000, 30202, 60000, 30206, 30209, 20000);
    }

    private static void chainStatuses() {
        StaticKernel kernel = Check.started("mode a resource r task t priority 1 auto a uses r task u priority 0 isr i level 1");
        kernel.activate(1);
        kernel.take(1);
        kernel.call(0);
        Check.same("an isr", kernel.chain(9), 2);
        kernel.leave();
        Check.same("a resource", kernel.chain(9), 6);
        kernel.give(1);
        Check.same("no such", kernel.chain(2), 3);
        Check.same("no such", kernel.chain(-1), 3);
        Check.same("its limit", kernel.chain(1), 4);
        Check.same("nothing changed", kernel.running(), 0);
        kernel.shut();
        Check.same("shut", kernel.chain(1), 9);
        Check.latest("noted", kernel, 30306, 30303, 30303, 30304, 30309);
    }

    private static void chainToItself() {
        StaticKernel kernel = Check.started("mode a event e task t priority 1 auto a waits e task u priority 1"
                + " task v priority 1 limit 2");
        kernel.signal(0, 1);
        kernel.activate(1);
        Check.same("set", kernel.bits(0, 1), 1);
        Check.same("chain, at its limit", kernel.chain(0), 0);
        Check.same("it comes behind u", kernel.running(), 1);
        Check.same("ready", kernel.task(0, 0), 1);
        Check.same("one request", kernel.task(0, 1), 1);
        Check.same("none is set", kernel.bits(0, 1), 0);
        Check.notes("all", kernel, 70000, 10000, 20000, 10001);
        kernel.chain(1);
        Check.same("t again", kernel.running(), 0);
        kernel.chain(2);
        Check.same("u again", kernel.running(), 1);
        kernel.chain(2);
        kernel.activate(2);
        Check.same("v at its limit", kernel.activate(2), 4);
        Check.same("v chains itself", kernel.chain(2), 0);
        Check.same("v's requests", kernel.task(2, 1), 2);
        Check.same("alone it runs at once", kernel.running(), 2);
    }

    private static void chainToAnother() {
        StaticKernel kernel = Check.started("mode a task t priority 5 auto a task u priority 1 task v priority 3");
        kernel.activate(2);
        Check.same("chain", kernel.chain(1), 0);
        Check.same("v is the top", kernel.running(), 2);
        Check.same("t is through", kernel.task(0, 0), 0);
        Check.same("u is ready", kernel.task(1, 0), 1);
        Check.notes("all", kernel, 70000, 10000, 20000, 10002);
    }

    private static void scheduleStatuses() {
        StaticKernel kernel = Check.started("mode a resource r task t priority 1 auto a uses r isr i level 1 task u priority 1");
        kernel.take(1);
        kernel.call(0);
        Check.same("an isr", kernel.schedule(), 2);
        kernel.leave();
        Check.same("a resource", kernel.schedule(), 6);
        kernel.give(1);
        kernel.activate(1);
        Check.same("the top lies not above", kernel.schedule(), 0);
        Check.same("t runs on", kernel.running(), 0);
        kernel.shut();
        Check.same("shut", kernel.schedule(), 9);
        Check.notes("all", kernel, 70000, 10000, 50000, 30402, 60000, 30406, 30409);
    }

    private static void scheduleOfWholeTask() {
        StaticKernel kernel = Check.started("mode a task t priority 1 whole auto a task u priority 2");
        kernel.activate(1);
        Check.same("whole", kernel.running(), 0);
        Check.same("schedule", kernel.schedule(), 0);
        Check.same("u runs", kernel.running(), 1);
        Check.same("t is ready", kernel.row(1, 0), 0);
        Check.notes("all", kernel, 70000, 10000, 20000, 10001);
    }

    private static void scheduleGivesTheInternalResource() {
        StaticKernel kernel = Check.started("mode a resource r internal task t priority 1 auto a uses r"
                + " task u priority 4 uses r task v priority 1");
        Check.same("current priority", kernel.task(0, 2), 4);
        kernel.activate(2);
        Check.same("nothing above its priority", kernel.schedule(), 0);
        Check.same("it keeps it", kernel.resource(1, 1), 0);
        kernel.activate(1);
        Check.same("not preempted", kernel.running(), 0);
        Check.same("schedule", kernel.schedule(), 0);
        Check.same("u runs", kernel.running(), 1);
        Check.same("u has it", kernel.resource(1, 1), 1);
        Check.same("t has nothing", kernel.task(0, 3), 0);
        Check.same("t's current priority", kernel.task(0, 2), 1);
        Check.same("t is ahead of v", kernel.row(1, 0), 0);
        Check.same("v behind", kernel.row(1, 1), 2);
        kernel.terminate();
        Check.same("t has it again", kernel.resource(1, 1), 0);
        Check.same("t's current priority", kernel.task(0, 2), 4);
        Check.same("t has one", kernel.task(0, 3), 1);
    }

    private static void takeStatuses() {
        StaticKernel kernel = Check.built("mode a resource r resource s internal resource q resource z"
                + " task t priority 5 auto a uses r task u priority 3 uses q isr i level 2 uses r");
        Check.same("off", kernel.take(1), 10);
        kernel.start(0);
        Check.same("no resource 5", kernel.take(5), 3);
        Check.same("no resource -1", kernel.take(-1), 3);
        Check.same("internal", kernel.take(2), 3);
        Check.same("above the ceiling", kernel.take(3), 1);
        Check.same("nobody uses it", kernel.take(4), 1);
        Check.same("r", kernel.take(1), 0);
        Check.same("it has it already", kernel.take(1), 1);
        kernel.shut();
        Check.same("shut", kernel.take(1), 9);
        kernel.open();
        Check.same("one only", kernel.task(0, 3), 1);
        Check.latest("noted", kernel, 30503, 30503, 30503, 30501, 30501, 30501, 30509);
    }

    private static void takeRaisesThePriority() {
        StaticKernel kernel = Check.started("mode a resource r resource s as r resource z task t priority 2 auto a uses r"
                + " task u priority 7 uses s task v priority 8 task w priority 1 task x priority 3 uses z");
        Check.same("ceiling of the group", kernel.resource(1, 0), 7);
        Check.same("ceiling of the group", kernel.resource(2, 0), 7);
        Check.same("group", kernel.resource(2, 2), 1);
        kernel.take(1);
        Check.same("who has it", kernel.resource(1, 1), 0);
        Check.same("nobody has s", kernel.resource(2, 1), NONE);
        Check.same("s is another one", kernel.take(2), 0);
        Check.same("z, used by others, too", kernel.take(3), 0);
        Check.same("three", kernel.task(0, 3), 3);
        Check.same("current", kernel.task(0, 2), 7);
        kernel.activate(1);
        Check.same("u is not above", kernel.running(), 0);
        kernel.activate(2);
        Check.same("v is", kernel.running(), 2);
        Check.same("t lies in row 7", kernel.row(7, 0), 0);
        Check.same("ahead of u", kernel.row(7, 1), 1);
        Check.same("it keeps what it has", kernel.task(0, 3), 3);
        Check.same("v may not, it is above", kernel.take(1), 1);
        kernel.terminate();
        Check.same("t again", kernel.running(), 0);
        kernel.give(3);
        Check.same("current", kernel.task(0, 2), 7);
        kernel.give(2);
        Check.same("t runs on", kernel.running(), 0);
        Check.same("current", kernel.task(0, 2), 7);
        kernel.give(1);
        Check.same("u runs", kernel.running(), 1);
        Check.same("t lies in row 2", kernel.row(2, 0), 0);
        Check.same("current", kernel.task(0, 2), 2);
    }

    private static void takeTheScheduler() {
        StaticKernel kernel = Check.started("mode a task t priority 2 auto a task u priority 9 isr i level 1");
        Check.same("ceiling", kernel.resource(0, 0), 9);
        Check.same("take", kernel.take(0), 0);
        kernel.activate(1);
        Check.same("no task preempts", kernel.running(), 0);
        kernel.call(0);
        Check.same("an isr does", kernel.atWork(), 100);
        Check.same("above its ceiling", kernel.take(0), 1);
        kernel.leave();
        Check.same("terminate", kernel.terminate(), 6);
        Check.same("schedule", kernel.schedule(), 6);
        Check.same("give", kernel.give(0), 0);
        Check.same("u", kernel.running(), 1);
    }

    private static void takeInAnIsr() {
        StaticKernel kernel = Check.started("mode a resource r task t priority 2 auto a uses r isr i level 2 uses r"
                + " isr j level 3 isr k level 1 uses r isr l level 4");
        Check.same("ceiling", kernel.resource(1, 0), 65);
        kernel.take(1);
        Check.same("current", kernel.task(0, 2), 65);
        kernel.call(2);
        kernel.call(0);
        Check.same("not above", kernel.atWork(), 0);
        kernel.call(1);
        Check.same("j is", kernel.atWork(), 101);
        Check.same("j may not take it", kernel.take(1), 1);
        kernel.leave();
        Check.same("t", kernel.atWork(), 0);
        kernel.give(1);
        Check.same("i is the greater", kernel.atWork(), 100);
        Check.same("i takes r", kernel.take(1), 0);
        Check.same("i has it", kernel.resource(1, 1), 100);
        Check.same("i may not leave", kernel.leave(), 6);
        Check.same("i gives it", kernel.give(1), 0);
        kernel.leave();
        Check.same("then k", kernel.atWork(), 102);
        Check.same("k takes r", kernel.take(1), 0);
        Check.same("k's current", kernel.isr(2, 0), 65);
        kernel.call(0);
        Check.same("i waits", kernel.atWork(), 102);
        kernel.call(3);
        Check.same("l doesn't", kernel.atWork(), 103);
        kernel.leave();
        kernel.give(1);
        Check.same("i preempts k", kernel.atWork(), 100);
        Check.same("its place", kernel.isr(0, 1), 1);
        Check.same("k's place", kernel.isr(2, 1), 0);
        Check.same("count(8)", kernel.count(8), 0);
    }

    private static void giveStatuses() {
        StaticKernel kernel = Check.started("mode a resource r resource s resource q internal task t priority 1 auto a uses r,s,q"
                + " isr i level 1 uses s");
        Check.same("no resource 4", kernel.give(4), 3);
        Check.same("no resource -1", kernel.give(-1), 3);
        Check.same("internal", kernel.give(3), 3);
        Check.same("not had", kernel.give(1), 5);
        kernel.take(1);
        kernel.take(2);
        Check.same("not the last", kernel.give(1), 5);
        Check.same("the scheduler not", kernel.give(0), 5);
        Check.same("the last", kernel.give(2), 0);
        kernel.call(0);
        Check.same("what is at work has it not", kernel.give(1), 5);
        kernel.leave();
        kernel.shut();
        Check.same("shut", kernel.give(1), 9);
        kernel.open();
        Check.same("the last", kernel.give(1), 0);
        Check.same("no more", kernel.give(1), 5);
        Check.same("only the internal one", kernel.task(0, 3), 1);
        Check.same("terminate", kernel.terminate(), 0);
    }

    private static void preemptedComesFirstInItsRow() {
        StaticKernel kernel = Check.started("mode a resource r task t priority 1 auto a uses r task u priority 5 uses r"
                + " task v priority 5 limit 3 task w priority 6");
        kernel.take(1);
        kernel.activate(2);
        kernel.activate(1);
        kernel.activate(2);
        kernel.activate(3);
        int[] due = {0, 2, 1, 2};
        for (int i = 0; i < due.length; i++) {
            Check.same("row 5: " + i, kernel.row(5, i), due[i]);
        }
        Check.same("none in row 1", kernel.row(1, 0), NONE);
        Check.same("state", kernel.task(0, 0), 1);
        Check.same("current", kernel.task(0, 2), 5);
        kernel.terminate();
        Check.same("t", kernel.running(), 0);
    }

    private static void internalResources() {
        StaticKernel kernel = Check.started("mode a resource r internal task t priority 1 auto a uses r"
                + " task u priority 5 uses r task v priority 6 task w priority 3");
        Check.same("ceiling", kernel.resource(1, 0), 5);
        Check.same("internal", kernel.resource(1, 3), 1);
        Check.same("t has it", kernel.resource(1, 1), 0);
        kernel.activate(1);
        kernel.activate(3);
        Check.same("not preempted by its like", kernel.running(), 0);
        kernel.activate(2);
        Check.same("by others", kernel.running(), 2);
        Check.same("t keeps it", kernel.resource(1, 1), 0);
        Check.same("t lies in row 5", kernel.row(5, 0), 0);
        Check.same("current", kernel.task(0, 2), 5);
        Check.same("how many", kernel.task(0, 3), 1);
        kernel.terminate();
        Check.same("t", kernel.running(), 0);
        Check.same("terminate", kernel.terminate(), 0);
        Check.same("u", kernel.running(), 1);
        Check.same("u has it", kernel.resource(1, 1), 1);
        kernel.terminate();
        Check.same("nobody has it", kernel.resource(1, 1), NONE);
        Check.same("t's priority again", kernel.task(0, 2), 1);
    }

    private static void signalStatuses() {
        StaticKernel kernel = Check.built("mode a event e task t priority 1 auto a task u priority 0 waits e");
        Check.same("off", kernel.signal(1, 1), 10);
        kernel.start(0);
        Check.same("no task 2", kernel.signal(2, 1), 3);
        Check.same("no task -1", kernel.signal(-1, 1), 3);
        Check.same("basic", kernel.signal(0, 1), 1);
        Check.same("suspended", kernel.signal(1, 1), 7);
        kernel.activate(1);
        Check.same("ready", kernel.signal(1, 1), 0);
        Check.same("set", kernel.bits(1, 1), 1);
        kernel.shut();
        Check.same("shut", kernel.signal(1, 1), 9);
        Check.notes("all", kernel, 70000, 10000, 30703, 30703, 30701, 30707, 30709);
    }

    private static void signalWakes() {
        StaticKernel kernel = Check.started("mode a event e event f event g task t priority 5 auto a waits e,g"
                + " task u priority 5 auto a limit 3 task w priority 4 auto a");
        Check.same("t waits", kernel.await(7), 0);
        Check.same("for e and g", kernel.bits(0, 2), 5);
        Check.same("state", kernel.task(0, 0), 3);
        Check.same("u runs", kernel.running(), 1);
        kernel.activate(1);
        Check.same("f is none of t's", kernel.signal(0, 2), 0);
        Check.same("none set", kernel.bits(0, 1), 0);
        Check.same("still waiting", kernel.task(0, 0), 3);
        Check.same("nothing", kernel.signal(0, 0), 0);
        Check.same("g and f", kernel.signal(0, 6), 0);
        Check.same("g is set", kernel.bits(0, 1), 4);
        Check.same("it waits for nothing", kernel.bits(0, 2), 0);
        Check.same("ready", kernel.task(0, 0), 1);
        Check.same("behind u's", kernel.row(5, 1), 0);
        Check.same("u's other", kernel.row(5, 0), 1);
        Check.same("u runs on", kernel.running(), 1);
        kernel.terminate();
        kernel.terminate();
        Check.same("t runs", kernel.running(), 0);
        Check.same("g is still set", kernel.given(0), 4);
        Check.same("await what is set", kernel.await(4), 0);
        Check.same("it runs on", kernel.running(), 0);
        Check.same("await another", kernel.await(1), 0);
        Check.same("w runs", kernel.running(), 2);
        Check.same("signal", kernel.signal(0, 1), 0);
        Check.same("t preempts w", kernel.running(), 0);
        Check.same("both are set", kernel.bits(0, 1), 5);
        Check.same("terminate", kernel.terminate(), 0);
        Check.same("w", kernel.running(), 2);
        Check.same("suspended", kernel.signal(0, 1), 7);
        Check.same("activate", kernel.activate(0), 0);
        Check.same("none set", kernel.bits(0, 1), 0);
    }

    private static void clearStatuses() {
        StaticKernel kernel = Check.started("mode a event e event f event g task t priority 1 auto a waits e,f task u priority 0 isr i level 1");
        kernel.call(0);
        Check.same("isr", kernel.clear(1), 2);
        kernel.leave();
        kernel.signal(0, 7);
        Check.same("both", kernel.bits(0, 1), 3);
        Check.same("clear others", kernel.clear(~3), 0);
        Check.same("both", kernel.bits(0, 1), 3);
        Check.same("clear f", kernel.clear(6), 0);
        Check.same("e", kernel.bits(0, 1), 1);
        kernel.shut();
        Check.same("shut", kernel.clear(1), 9);
        kernel.open();
        Check.same("clear all", kernel.clear(-1), 0);
        Check.same("none", kernel.bits(0, 1), 0);
        kernel.chain(1);
        Check.same("basic", kernel.clear(1), 1);
        kernel.terminate();
        Check.same("nobody", kernel.clear(1), 10);
        Check.notes("all", kernel, 70000, 10000, 50000, 30802, 60000, 30809, 20000, 10001, 30801, 20001);
    }

    private static void awaitStatuses() {
        StaticKernel kernel = Check.started("mode a event e resource r task t priority 1 auto a waits e uses r"
                + " task u priority 0 uses r isr i level 1");
        kernel.call(0);
        Check.same("isr", kernel.await(1), 2);
        kernel.leave();
        kernel.take(1);
        Check.same("a resource", kernel.await(1), 6);
        kernel.signal(0, 1);
        Check.same("a resource, be it set", kernel.await(1), 6);
        kernel.give(1);
        kernel.shut();
        Check.same("shut", kernel.await(1), 9);
        kernel.open();
        Check.same("set", kernel.await(1), 0);
        Check.same("runs on", kernel.running(), 0);
        kernel.chain(1);
        kernel.take(1);
        Check.same("basic, with a resource", kernel.await(1), 1);
        kernel.give(1);
        kernel.chain(0);
        Check.same("waits", kernel.await(1), 0);
        Check.same("nobody", kernel.await(1), 10);
        Check.same("a request", kernel.count(5), 1);
        Check.latest("noted", kernel, 30901, 20001, 10000, 20000);
    }

    private static void awaitGivesTheInternalResource() {
        StaticKernel kernel = Check.started("mode a event e resource r internal task t priority 1 auto a waits e uses r"
                + " task u priority 3 uses r task v priority 1");
        kernel.activate(1);
        kernel.activate(2);
        Check.same("await", kernel.await(1), 0);
        Check.same("u has it", kernel.resource(1, 1), 1);
        Check.same("t has none", kernel.task(0, 3), 0);
        Check.same("t's priority", kernel.task(0, 2), 1);
        kernel.signal(0, 1);
        Check.same("behind v", kernel.row(1, 1), 0);
        Check.same("not yet", kernel.task(0, 3), 0);
        kernel.terminate();
        kernel.terminate();
        Check.same("t again", kernel.running(), 0);
        Check.same("and has it", kernel.resource(1, 1), 0);
    }

    private static void awaitNothing() {
        StaticKernel kernel = Check.started("mode a event e event f task t priority 1 auto a waits e task u priority 0 auto a");
        kernel.signal(0, 1);
        Check.same("none of its own", kernel.await(2), 0);
        Check.same("waits", kernel.task(0, 0), 3);
        Check.same("for nothing", kernel.bits(0, 2), 0);
        kernel.signal(0, 3);
        Check.same("for ever", kernel.task(0, 0), 3);
    }

    private static void givenStatuses() {
        StaticKernel kernel = Check.built("mode a event e event f task t priority 1 auto a task u priority 0 waits e,f");
        Check.same("off", kernel.given(1), -10);
        kernel.start(0);
        Check.same("no task 2", kernel.given(2), -3);
        Check.same("no task -1", kernel.given(-1), -3);
        Check.same("basic", kernel.given(0), -1);
        Check.same("suspended", kernel.given(1), -7);
        kernel.activate(1);
        Check.same("none", kernel.given(1), 0);
        kernel.signal(1, 2);
        Check.same("f", kernel.given(1), 2);
        kernel.shut();
        Check.same("shut", kernel.given(1), -9);
        Check.notes("all", kernel, 70000, 10000, 31003, 31003, 31001, 31007, 31009);
    }

    private static void allThirtyTwoEvents() {
        StringBuilder plan = new StringBuilder("mode a ");
        StringBuilder waits = new StringBuilder();
        for (int i = 0; i < 32; i++) {
            plan.append("event e").append(i).append(' ');
            waits.append(i == 0 ? "" : ",").append("e").append(i);
        }
        StaticKernel kernel = Check.started(plan + "task t priority 1 auto a waits " + waits
                + " counter c max 3 base 1 least 1 alarm x on c sets t e31 auto a in 1");
        Check.same("all", kernel.bits(0, 0), 0xFFFFFFFFL);
        kernel.signal(0, Integer.MIN_VALUE);
        Check.same("the highest", kernel.given(0), 0x80000000L);
        Check.same("the highest", kernel.bits(0, 1), 0x80000000L);
        kernel.signal(0, -1);
        Check.same("all set", kernel.given(0), 0xFFFFFFFFL);
        kernel.clear(-1);
        kernel.await(-1);
        Check.same("all waited for", kernel.bits(0, 2), 0xFFFFFFFFL);
        Check.same("the alarm", kernel.tick(0, 1), 1);
        Check.same("it runs", kernel.running(), 0);
        Check.same("31 is set", kernel.given(0), 0x80000000L);
    }
}
