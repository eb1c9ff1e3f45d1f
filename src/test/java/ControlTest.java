/** Promises 22 to 25, 27 to 33, 36 to 38: shutting, interrupts, halting, and what there is to see. */
final class ControlTest {
    private static final int NONE = StaticKernel.NONE;

    public static void main(String[] args) {
        shutAndOpenStatuses();
        shutHoldsEverythingBack();
        openDoesTheTicksThatWait();
        openSettlesBehindEachTick();
        ticksBeyondAreLost();
        leaveStatuses();
        haltStatuses();
        haltClearsAll();
        haltInAnIsr();
        callStatuses();
        isrsByTheirPriority();
        isrsOfLikePriority();
        sixteenIsrs();
        isrCalledAgainWhileBegun();
        isrAboveWholeTask();
        isrActivatesTasks();
        atWorkAndRunning();
        taskAnswers();
        taskWithSeveralRequests();
        bitsAnswers();
        resourceAnswers();
        internalOfSeveral();
        isrAnswers();
        rowAnswers();
        noteAnswers();
        notesKept();
        countAnswers();
        allRowsFull();
        Check.end("ControlTest");
    }

    private static void shutAndOpenStatuses() {
        StaticKernel kernel = Check.built("mode a task t priority 1 auto a");
        Check.same("off", kernel.shut(), 10);
        Check.same("off", kernel.open(), 10);
        kernel.start(0);
        Check.same("open", kernel.open(), 5);
        for (int n = 0; n < 100; n++) {
            Check.same("shut " + n, kernel.shut(), 0);
        }
        Check.same("SHUT", kernel.count(3), 100);
        Check.same("one too many", kernel.shut(), 4);
        Check.same("SHUT", kernel.count(3), 100);
        for (int n = 0; n < 100; n++) {
            Check.same("open " + n, kernel.open(), 0);
        }
        Check.same("SHUT", kernel.count(3), 0);
        Check.same("open", kernel.open(), 5);
        kernel.terminate();
        Check.same("nobody", kernel.shut(), 10);
        Check.same("nobody", kernel.open(), 10);
        Check.notes("all", kernel, 70000, 10000, 31605, 31504, 31605, 20000);
    }

    private static void shutHoldsEverythingBack() {
        StaticKernel kernel = Check.started("mode a task t priority 1 auto a isr i level 1 isr j level 2");
        kernel.shut();
        Check.same("call", kernel.call(0), 0);
        Check.same("call", kernel.call(1), 0);
        Check.same("t", kernel.atWork(), 0);
        Check.same("called", kernel.isr(0, 2), 1);
        kernel.shut();
        kernel.open();
        Check.same("still shut", kernel.atWork(), 0);
        Check.same("open", kernel.open(), 0);
        Check.same("j", kernel.atWork(), 101);
        Check.same("i waits", kernel.isr(0, 2), 1);
        kernel.shut();
        Check.same("leave while shut", kernel.leave(), 9);
        kernel.open();
        kernel.leave();
        Check.same("i", kernel.atWork(), 100);
        Check.notes("all", kernel, 70000, 10000, 50001, 31709, 60001, 50000);
    }

    private static void openDoesTheTicksThatWait() {
        StaticKernel kernel = Check.started("mode a counter c max 9 base 2 least 1 counter d max 9 base 1 least 1"
                + " task t priority 1 auto a limit 2 alarm x on c calls auto a in 1 every 1 alarm y on d calls auto a in 2");
        kernel.shut();
        Check.same("tick", kernel.tick(1, 3), 0);
        Check.same("tick", kernel.tick(0, 3), 0);
        Check.same("tick", kernel.tick(0, 2), 0);
        Check.same("waiting", kernel.counter(0, 2), 5);
        Check.same("waiting", kernel.counter(1, 2), 3);
        Check.same("value", kernel.counter(0, 0), 0);
        kernel.shut();
        kernel.open();
        Check.same("still waiting", kernel.counter(0, 2), 5);
        Check.same("open", kernel.open(), 0);
        Check.same("none waits", kernel.counter(0, 2), 0);
        Check.same("none waits", kernel.counter(1, 2), 0);
        Check.same("value", kernel.counter(0, 0), 2);
        Check.same("ticks", kernel.counter(0, 1), 1);
        Check.same("value", kernel.counter(1, 0), 3);
        Check.notes("counter by counter", kernel, 70000, 10000, 40000, 40000, 40001);
        Check.same("no more", kernel.open(), 5);
        Check.same("value", kernel.counter(0, 0), 2);
    }

    private static void openSettlesBehindEachTick() {
        StaticKernel kernel = Check.started("mode a counter c max 9 base 1 least 1 task t priority 1 auto a task u priority 2"
                + " task v priority 3 isr i level 1 alarm x on c starts u auto a in 1 alarm y on c starts v auto a in 2");
        kernel.shut();
        kernel.tick(0, 2);
        kernel.open();
        Check.notes("u ran between", kernel, 70000, 10000, 40000, 20000, 10001, 40001, 20001, 10002);
        StaticKernel other = Check.started("mode a counter c max 9 base 1 least 1 task t priority 1 auto a task u priority 2"
                + " task v priority 3 isr i level 1 alarm x on c starts u auto a in 1 alarm y on c starts v auto a in 2");
        other.shut();
        other.call(0);
        other.tick(0, 2);
        other.open();
        Check.same("i", other.atWork(), 100);
        Check.notes("i begins behind the first tick", other, 70000, 10000, 40000, 50000, 40001);
    }

    private static void ticksBeyondAreLost() {
        StaticKernel kernel = Check.started("mode a counter c max 65535 base 1 least 1 task t priority 1 auto a");
        kernel.shut();
        kernel.tick(0, 999);
        kernel.tick(0, 1000);
        Check.same("1999", kernel.counter(0, 2), 1999);
        Check.same("0 all the same", kernel.tick(0, 1000), 0);
        Check.same("2000", kernel.counter(0, 2), 2000);
        kernel.tick(0, 1);
        Check.same("2000", kernel.counter(0, 2), 2000);
        kernel.open();
        Check.same("value", kernel.counter(0, 0), 2000);
    }

    private static void leaveStatuses() {
        StaticKernel kernel = Check.built("mode a resource r task t priority 1 auto a isr i level 1 uses r");
        Check.same("off", kernel.leave(), 10);
        kernel.start(0);
        Check.same("no isr", kernel.leave(), 2);
        kernel.call(0);
        kernel.take(1);
        Check.same("a resource", kernel.leave(), 6);
        kernel.give(1);
        Check.same("leave", kernel.leave(), 0);
        Check.same("t", kernel.atWork(), 0);
        Check.same("not begun", kernel.isr(0, 1), NONE);
        kernel.terminate();
        Check.same("nobody", kernel.leave(), 10);
        Check.notes("all", kernel, 70000, 10000, 31702, 50000, 31706, 60000, 20000);
    }

    private static void haltStatuses() {
        StaticKernel kernel = Check.built("mode a mode b task t priority 1 auto a");
        Check.same("off", kernel.halt(1), 10);
        kernel.start(1);
        Check.same("nobody", kernel.halt(1), 10);
        StaticKernel on = Check.started("mode a task t priority 1 auto a");
        on.shut();
        Check.same("while shut", on.halt(-1), 0);
        Check.same("the lowest seven bits", on.note(0), 80127);
        Check.same("off", on.halt(1), 10);
        on.start(0);
        on.halt(128);
        Check.same("the lowest seven bits", on.note(0), 80000);
        on.start(0);
        on.halt(Integer.MAX_VALUE);
        Check.same("the lowest seven bits", on.note(0), 80127);
        on.start(0);
        on.halt(5);
        Check.notes("all", on, 70000, 10000, 80005);
    }

    private static void haltClearsAll() {
        StaticKernel kernel = Check.started("mode a event e resource r resource s internal counter c max 9 base 2 least 1"
                + " task t priority 5 auto a uses r,s limit 3 task u priority 6 waits e isr i level 1 uses r isr j level 2"
                + " alarm x on c calls auto a in 5 every 2");
        kernel.tick(0, 3);
        kernel.activate(1);
        kernel.await(1);
        kernel.activate(1);
        kernel.activate(0);
        kernel.take(1);
        kernel.call(1);
        kernel.shut();
        kernel.call(0);
        kernel.tick(0, 10);
        Check.same("halt", kernel.halt(7), 0);
        Check.same("off", kernel.count(1), 0);
        Check.same("mode", kernel.count(2), NONE);
        Check.same("shut", kernel.count(3), 0);
        Check.same("begun", kernel.count(4), 0);
        Check.same("requests", kernel.count(5), 0);
        Check.same("at work", kernel.atWork(), NONE);
        Check.same("running", kernel.running(), NONE);
        Check.same("called", kernel.isr(0, 2), 0);
        Check.same("begun", kernel.isr(1, 1), NONE);
        Check.same("state", kernel.task(0, 0), 0);
        Check.same("state", kernel.task(1, 0), 0);
        Check.same("waits for", kernel.bits(1, 2), 0);
        Check.same("had", kernel.resource(1, 1), NONE);
        Check.same("had", kernel.resource(2, 1), NONE);
        Check.same("current", kernel.task(0, 2), 5);
        Check.same("has", kernel.task(0, 3), 0);
        Check.same("row", kernel.row(5, 0), NONE);
        Check.same("alarm", kernel.alarm(0, 0), NONE);
        Check.same("waiting ticks", kernel.counter(0, 2), 0);
        Check.same("value stays", kernel.counter(0, 0), 1);
        Check.same("ticks stay", kernel.counter(0, 1), 1);
        Check.same("note", kernel.note(0), 80007);
        Check.same("tick", kernel.tick(0, 1), NONE);
        Check.same("call", kernel.call(0), NONE);
        Check.same("many", kernel.many(4), 2);
    }

    private static void haltInAnIsr() {
        StaticKernel kernel = Check.started("mode a event e task t priority 1 auto a waits e isr i level 1");
        kernel.signal(0, 1);
        kernel.call(0);
        Check.same("halt", kernel.halt(0), 0);
        Check.same("set", kernel.bits(0, 1), 0);
        Check.notes("ends are not noted", kernel, 70000, 10000, 50000, 80000);
    }

    private static void callStatuses() {
        StaticKernel kernel = Check.built("mode a task t priority 1 auto a isr i level 1 isr j level 2");
        Check.same("off", kernel.call(0), NONE);
        kernel.start(0);
        Check.same("no isr 2", kernel.call(2), NONE);
        Check.same("no isr -1", kernel.call(-1), NONE);
        Check.same("j", kernel.call(1), 0);
        Check.same("i", kernel.call(0), 0);
        Check.same("i is called already", kernel.call(0), 1);
        Check.same("j is at work", kernel.atWork(), 101);
        Check.same("j again", kernel.call(1), 0);
        Check.same("j is called already", kernel.call(1), 1);
        Check.notes("nothing else is noted", kernel, 70000, 10000, 50001);
    }

    private static void isrsByTheirPriority() {
        StaticKernel kernel = Check.started("mode a task t priority 63 auto a isr i level 1 isr j level 3 isr k level 2");
        kernel.call(0);
        kernel.call(2);
        kernel.call(1);
        Check.same("begun", kernel.count(4), 3);
        Check.same("places", kernel.isr(0, 1), 0);
        Check.same("places", kernel.isr(2, 1), 1);
        Check.same("places", kernel.isr(1, 1), 2);
        kernel.leave();
        Check.same("k", kernel.atWork(), 102);
        kernel.leave();
        Check.same("i", kernel.atWork(), 100);
        kernel.leave();
        Check.same("t", kernel.atWork(), 0);
        Check.notes("all", kernel, 70000, 10000, 50000, 50002, 50001, 60001, 60002, 60000);
    }

    private static void isrsOfLikePriority() {
        StaticKernel kernel = Check.started("mode a task t priority 1 auto a isr i level 1 isr j level 4 isr k level 4 isr l level 4");
        kernel.shut();
        kernel.call(3);
        kernel.call(0);
        kernel.call(2);
        kernel.open();
        Check.same("k is the first of the greatest", kernel.atWork(), 102);
        kernel.call(1);
        Check.same("j is not above it", kernel.atWork(), 102);
        kernel.leave();
        Check.same("j", kernel.atWork(), 101);
        kernel.leave();
        Check.same("l", kernel.atWork(), 103);
        kernel.leave();
        Check.same("i", kernel.atWork(), 100);
        kernel.leave();
        Check.same("t", kernel.atWork(), 0);
    }

    private static void sixteenIsrs() {
        StringBuilder plan = new StringBuilder("mode a task t priority 1 auto a ");
        for (int i = 0; i < 16; i++) {
            plan.append("isr i").append(i).append(" level ").append(i + 1).append(' ');
        }
        StaticKernel kernel = Check.started(plan.toString());
        for (int i = 0; i < 16; i++) {
            kernel.call(i);
            Check.same("at work", kernel.atWork(), 100 + i);
            kernel.call(i);
        }
        Check.same("begun", kernel.count(4), 16);
        for (int i = 15; i >= 0; i--) {
            kernel.leave();
            Check.same("again", kernel.atWork(), 100 + i);
            kernel.leave();
        }
        Check.same("t", kernel.atWork(), 0);
        kernel.shut();
        for (int i = 0; i < 16; i++) {
            kernel.call(i);
        }
        kernel.open();
        for (int i = 15; i >= 0; i--) {
            Check.same("the greatest", kernel.atWork(), 100 + i);
            Check.same("alone", kernel.count(4), 1);
            kernel.leave();
        }
    }

    private static void isrCalledAgainWhileBegun() {
        StaticKernel kernel = Check.started("mode a isr i level 1");
        Check.same("idle", kernel.atWork(), NONE);
        Check.same("call", kernel.call(0), 0);
        Check.same("at work while idle", kernel.atWork(), 100);
        Check.same("called no more", kernel.isr(0, 2), 0);
        Check.same("call again", kernel.call(0), 0);
        Check.same("once only", kernel.count(4), 1);
        Check.same("called", kernel.isr(0, 2), 1);
        kernel.leave();
        Check.same("it begins again", kernel.atWork(), 100);
        kernel.leave();
        Check.same("idle", kernel.atWork(), NONE);
        Check.notes("all", kernel, 70000, 50000, 60000, 50000, 60000);
    }

    private static void isrAboveWholeTask() {
        StaticKernel kernel = Check.started("mode a task t priority 63 whole auto a isr i level 1");
        kernel.call(0);
        Check.same("i", kernel.atWork(), 100);
        Check.same("t is running below", kernel.running(), 0);
        Check.same("t's state", kernel.task(0, 0), 2);
    }

    private static void isrActivatesTasks() {
        StaticKernel kernel = Check.started("mode a event e task t priority 1 auto a task u priority 2 waits e isr i level 1");
        kernel.call(0);
        kernel.activate(1);
        Check.same("t is running yet", kernel.running(), 0);
        Check.same("signal", kernel.signal(1, 1), 0);
        Check.same("u is ready", kernel.task(1, 0), 1);
        kernel.leave();
        Check.same("u", kernel.running(), 1);
        Check.same("e", kernel.given(1), 1);
        Check.same("count(7)", kernel.count(7), 0);
    }

    private static void atWorkAndRunning() {
        StaticKernel kernel = Check.built("mode a mode b task s priority 0 task t priority 1 auto a isr i level 1 isr j level 2");
        Check.same("off", kernel.atWork(), NONE);
        Check.same("off", kernel.running(), NONE);
        kernel.start(0);
        Check.same("t", kernel.atWork(), 1);
        Check.same("t", kernel.running(), 1);
        kernel.call(1);
        Check.same("j", kernel.atWork(), 101);
        Check.same("t below", kernel.running(), 1);
        kernel.leave();
        kernel.terminate();
        Check.same("idle", kernel.atWork(), NONE);
        Check.same("idle", kernel.running(), NONE);
        kernel.call(0);
        Check.same("i", kernel.atWork(), 100);
        Check.same("none below", kernel.running(), NONE);
    }

    private static void taskAnswers() {
        StaticKernel kernel = Check.started("mode a event e resource r task t priority 3 auto a uses r limit 4 whole"
                + " task u priority 9 uses r waits e task v priority 0");
        kernel.take(1);
        kernel.activate(0);
        int[][] due = {{2, 2, 9, 1, 3, 4, 1}, {0, 0, 9, 0, 9, 1, 0}, {0, 0, 0, 0, 0, 1, 0}};
        for (int t = 0; t < 3; t++) {
            for (int what = 0; what < 7; what++) {
                Check.same("task " + t + ", " + what, kernel.task(t, what), due[t][what]);
            }
            Check.same("what 7", kernel.task(t, 7), NONE);
            Check.same("what -1", kernel.task(t, -1), NONE);
        }
        Check.missing("task 3", () -> kernel.task(3, 0));
        Check.missing("task -1", () -> kernel.task(-1, 0));
        Check.missing("task 3, what 9", () -> kernel.task(3, 9));
        Check.missing("none in a new object", () -> new StaticKernel().task(0, 0));
    }

    private static void taskWithSeveralRequests() {
        StaticKernel kernel = Check.started("mode a resource r task t priority 1 limit 3 auto a uses r task u priority 5 uses r"
                + " task v priority 6");
        kernel.activate(0);
        kernel.take(1);
        kernel.activate(2);
        Check.same("in row 5", kernel.row(5, 0), 0);
        Check.same("and in row 1", kernel.row(1, 0), 0);
        Check.same("the highest row first", kernel.task(0, 2), 5);
        Check.same("it has one", kernel.task(0, 3), 1);
        Check.same("ready", kernel.task(0, 0), 1);
        kernel.terminate();
        kernel.give(1);
        kernel.terminate();
        Check.same("the other one runs", kernel.running(), 0);
        Check.same("it has none", kernel.task(0, 3), 0);
        Check.same("one request", kernel.task(0, 1), 1);
    }

    private static void bitsAnswers() {
        StaticKernel kernel = Check.started("mode a event e event f event g task t priority 2 auto a waits g,e task u priority 1 auto a");
        kernel.signal(0, 1);
        kernel.await(6);
        Check.same("events", kernel.bits(0, 0), 5);
        Check.same("set", kernel.bits(0, 1), 1);
        Check.same("waited for", kernel.bits(0, 2), 4);
        Check.same("what 3", kernel.bits(0, 3), 0);
        Check.same("what -1", kernel.bits(0, -1), 0);
        for (int what = 0; what < 3; what++) {
            Check.same("basic " + what, kernel.bits(1, what), 0);
        }
        Check.missing("task 2", () -> kernel.bits(2, 0));
        Check.missing("task -1", () -> kernel.bits(-1, 0));
        Check.missing("task 2, what 9", () -> kernel.bits(2, 9));
    }

    private static void resourceAnswers() {
        StaticKernel kernel = Check.started("mode a resource z as y resource x internal resource y as w resource w resource v as w"
                + " resource lone resource alone2 as lone"
                + " task t priority 4 auto a uses v task u priority 6 uses x isr i level 2 uses y task q priority 2 uses lone");
        int[][] due = {{6, NONE, 0, 0}, {65, NONE, 1, 0}, {6, NONE, 2, 1}, {65, NONE, 1, 0}, {65, NONE, 1, 0},
            {65, NONE, 1, 0}, {2, NONE, 6, 0}, {2, NONE, 6, 0}};
        for (int r = 0; r < due.length; r++) {
            for (int what = 0; what < 4; what++) {
                Check.same("resource " + r + ", " + what, kernel.resource(r, what), due[r][what]);
            }
            Check.same("what 4", kernel.resource(r, 4), NONE);
            Check.same("what -1", kernel.resource(r, -1), NONE);
        }
        kernel.take(5);
        Check.same("t has v", kernel.resource(5, 1), 0);
        Check.same("w is free", kernel.resource(4, 1), NONE);
        Check.missing("resource 8", () -> kernel.resource(8, 0));
        Check.missing("resource -1", () -> kernel.resource(-1, 0));
        Check.same("unused", Check.built("resource r").resource(1, 0), -1);
        Check.same("unused scheduler", Check.built("resource r isr i level 1 uses r").resource(0, 0), -1);
    }

    private static void internalOfSeveral() {
        StaticKernel kernel = Check.started("mode a resource r internal task u priority 7 uses r task t priority 5 auto a uses r"
                + " task w priority 8 task v priority 6 uses r whole");
        Check.same("t has it", kernel.resource(1, 1), 1);
        Check.same("its ceiling", kernel.resource(1, 0), 7);
        kernel.activate(0);
        Check.same("u is not above", kernel.running(), 1);
        kernel.activate(2);
        Check.same("w", kernel.running(), 2);
        kernel.terminate();
        Check.same("t", kernel.running(), 1);
        kernel.schedule();
        Check.same("u", kernel.running(), 0);
        Check.same("u has it", kernel.resource(1, 1), 0);
        Check.same("not t", kernel.task(1, 3), 0);
    }

    private static void isrAnswers() {
        StaticKernel kernel = Check.started("mode a resource r task t priority 1 auto a isr i level 2 uses r isr j level 16 isr k level 5 uses r");
        kernel.call(0);
        kernel.take(1);
        kernel.call(2);
        int[][] due = {{68, 0, 0}, {79, NONE, 0}, {68, NONE, 1}};
        for (int i = 0; i < 3; i++) {
            for (int what = 0; what < 3; what++) {
                Check.same("isr " + i + ", " + what, kernel.isr(i, what), due[i][what]);
            }
            Check.same("what 3", kernel.isr(i, 3), NONE);
            Check.same("what -1", kernel.isr(i, -1), NONE);
        }
        kernel.give(1);
        Check.same("its priority again", kernel.isr(0, 0), 65);
        Check.same("k's place", kernel.isr(2, 1), 1);
        Check.missing("isr 3", () -> kernel.isr(3, 0));
        Check.missing("isr -1", () -> kernel.isr(-1, 0));
    }

    private static void rowAnswers() {
        StaticKernel kernel = Check.started("mode a task s priority 63 auto a task t priority 0 limit 2 task u priority 63 task v priority 0");
        kernel.activate(1);
        kernel.activate(3);
        kernel.activate(1);
        kernel.activate(2);
        Check.same("row 0", kernel.row(0, 0), 1);
        Check.same("row 0", kernel.row(0, 1), 3);
        Check.same("row 0", kernel.row(0, 2), 1);
        Check.same("row 0", kernel.row(0, 3), NONE);
        Check.same("row 63", kernel.row(63, 0), 2);
        Check.same("row 63", kernel.row(63, 1), NONE);
        Check.same("row 1", kernel.row(1, 0), NONE);
        Check.same("row 64", kernel.row(64, 0), NONE);
        Check.same("row -1", kernel.row(-1, 0), NONE);
        Check.same("i -1", kernel.row(0, -1), NONE);
        Check.same("i least", kernel.row(0, Integer.MIN_VALUE), NONE);
        Check.same("i greatest", kernel.row(0, Integer.MAX_VALUE), NONE);
    }

    private static void noteAnswers() {
        StaticKernel kernel = Check.built("mode a task t priority 1 auto a");
        Check.missing("none yet", () -> kernel.note(0));
        kernel.start(0);
        Check.same("the latest", kernel.note(0), 10000);
        Check.same("the first", kernel.note(1), 70000);
        Check.missing("no third", () -> kernel.note(2));
        Check.missing("k -1", () -> kernel.note(-1));
        Check.missing("k least", () -> kernel.note(Integer.MIN_VALUE));
        kernel.halt(9);
        Check.same("kept when off", kernel.note(0), 80009);
        Check.same("start fails", kernel.start(1), 3);
        Check.same("kept", kernel.count(6), 3);
    }

    private static void notesKept() {
        StaticKernel kernel = Check.started("mode a task t priority 1 auto a counter c max 9 base 1 least 1"
                + " alarm x on c calls auto a in 1 every 1");
        kernel.tick(0, 498);
        Check.same("500", kernel.count(6), 500);
        Check.same("the first is kept", kernel.note(499), 70000);
        Check.missing("500", () -> kernel.note(500));
        kernel.activate(7);
        Check.same("501", kernel.count(6), 501);
        Check.same("the latest", kernel.note(0), 30103);
        Check.same("the second is kept", kernel.note(499), 10000);
        Check.missing("500", () -> kernel.note(500));
        kernel.tick(0, 1000);
        Check.same("1501", kernel.count(6), 1501);
        Check.same("the oldest", kernel.note(499), 40000);
        kernel.halt(0);
        kernel.start(0);
        Check.same("anew", kernel.count(6), 2);
        Check.missing("no third", () -> kernel.note(2));
    }

    private static void countAnswers() {
        StaticKernel kernel = Check.built("mode a mode b event e task t priority 2 auto b limit 3 task u priority 3 waits e isr i level 1 isr j level 2");
        kernel.start(1);
        Check.feed(kernel, "mode a mode b mode c mode d");
        kernel.activate(0);
        kernel.activate(1);
        kernel.await(1);
        kernel.call(0);
        kernel.call(1);
        kernel.shut();
        kernel.shut();
        int[] due = {40, 1, 1, 2, 2, 3, 8, 0, 0};
        for (int what = 0; what < due.length; what++) {
            Check.same("count " + what, kernel.count(what), due[what]);
        }
        Check.same("count 9", kernel.count(9), NONE);
        Check.same("count -1", kernel.count(-1), NONE);
    }

    private static void allRowsFull() {
        StringBuilder plan = new StringBuilder("mode a ");
        for (int t = 0; t < 48; t++) {
            plan.append("task t").append(t).append(" priority ").append(t == 0 ? 63 : t).append(" limit 8")
                    .append(t == 0 ? " auto a whole " : " ");
        }
        StaticKernel kernel = Check.started(plan.toString());
        for (int t = 0; t < 48; t++) {
            for (int n = t == 0 ? 1 : 0; n < 8; n++) {
                Check.same("activate", kernel.activate(t), 0);
            }
            Check.same("at its limit", kernel.activate(t), 4);
        }
        Check.same("all", kernel.count(5), 384);
        Check.same("the last of row 47", kernel.row(47, 7), 47);
        Check.same("the last of row 1", kernel.row(1, 7), 1);
        Check.same("no more", kernel.row(1, 8), NONE);
    }
}
