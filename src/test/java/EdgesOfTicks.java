/** Sections 5 and 6: TICKS and NOTES; and promises 26 and 27. */
final class EdgesOfTicks {
    private static final int NONE = StaticKernel.NONE;

    private EdgesOfTicks() {
    }

    static void all() {
        steps();
        meeting();
        actions();
        everyOrOnce();
        tick();
        tickWhileShut();
        tickRefused();
        call();
        notesOfTasks();
        notesOfStatuses();
        notesOfTheRest();
        notesKept();
    }

    // ---- section 5

    private static void steps() {
        Edge.of("section 5", "A counter makes a step of VALUE at each base-th TICK", () -> {
            for (int base : new int[] {1, 2, 999, 1000}) {
                StaticKernel kernel = Check.started("mode a counter c max 9 base " + base + " least 1");
                if (base > 1) {
                    kernel.tick(0, base - 1);
                }
                Check.same("one ahead of " + base, kernel.counter(0, 0), 0);
                Check.same("ticks", kernel.counter(0, 1), base - 1);
                kernel.tick(0, 1);
                Check.same("at " + base, kernel.counter(0, 0), 1);
                Check.same("ticks", kernel.counter(0, 1), 0);
                kernel.tick(0, 1);
                Check.same("behind " + base, kernel.counter(0, 0), base == 1 ? 2 : 1);
                Check.same("ticks", kernel.counter(0, 1), base == 1 ? 0 : 1);
            }
        });
        Edge.of("section 5", "(behind max comes 0)", () -> {
            StaticKernel kernel = Check.started("mode a counter c max 1 base 1 least 1 counter d max 65535 base 1 least 1");
            int[] due = {1, 0, 1, 0};
            for (int n = 0; n < due.length; n++) {
                kernel.tick(0, 1);
                Check.same("max 1", kernel.counter(0, 0), due[n]);
            }
            for (int n = 0; n < 65; n++) {
                kernel.tick(1, 1000);
            }
            kernel.tick(1, 535);
            Check.same("max 65535", kernel.counter(1, 0), 65535);
            kernel.tick(1, 1);
            Check.same("0", kernel.counter(1, 0), 0);
        });
    }

    private static void meeting() {
        Edge.of("section 5", "Behind a step those alarms on it that are in use and whose DUE is VALUE are met, in order", () -> {
            StaticKernel kernel = Check.started("mode a counter c max 9 base 2 least 1 counter d max 9 base 1 least 1"
                    + " task t priority 1 auto a"
                    + " alarm p on c calls auto a in 2 alarm q on d calls auto a in 2 alarm r on c calls auto a in 1"
                    + " alarm s on c calls auto a in 2 alarm u on c calls");
            Check.same("no step", kernel.tick(0, 1), 0);
            Check.same("VALUE 1", kernel.tick(0, 1), 1);
            Check.same("no step", kernel.tick(0, 1), 0);
            Check.same("VALUE 2", kernel.tick(0, 1), 2);
            Check.same("d's VALUE 2", kernel.tick(1, 2), 1);
            Check.notes("in order", kernel, 70000, 10000, 40002, 40000, 40003, 40001);
            kernel.at(4, 2, 0);
            Check.same("DUE is VALUE, but no step", kernel.tick(0, 1), 0);
            Check.same("VALUE 3 to 1", kernel.tick(0, 17), 0);
            Check.same("no step", kernel.tick(0, 1), 0);
            Check.same("VALUE 2", kernel.tick(0, 1), 1);
        });
    }

    private static void actions() {
        Edge.of("section 5", "starts: the task gets a REQUEST (4 NOTED, if it has as many as its LIMIT)", () -> {
            StaticKernel kernel = Check.started("mode a counter c max 9 base 1 least 1 task t priority 5 auto a task u"
                    + " priority 1 limit 2"
                    + " alarm x on c starts u auto a in 1 every 1");
            Check.same("met", kernel.tick(0, 1), 1);
            Check.same("requests", kernel.task(1, 1), 1);
            Check.same("met", kernel.tick(0, 1), 1);
            Check.same("up to its limit", kernel.task(1, 1), 2);
            Check.notes("not noted", kernel, 70000, 10000, 40000, 40000);
            Check.same("met all the same", kernel.tick(0, 1), 1);
            Check.same("no more", kernel.task(1, 1), 2);
            Check.latest("noted", kernel, 40000, 32004);
        });
        Edge.of("section 5", "sets: as signal of that event (7 NOTED, if the task is SUSPENDED)", () -> {
            StaticKernel kernel = Check.started("mode a " + Check.items(32, "event", "") + "counter c max 9 base 1"
                    + " least 1 task t priority 1 auto a"
                    + " task u priority 5 waits bfz,aaz alarm x on c sets u bfz auto a in 1 every 1");
            Check.same("suspended: met all the same", kernel.tick(0, 1), 1);
            Check.latest("noted", kernel, 40000, 32007);
            kernel.activate(1);
            Check.same("none is set", kernel.bits(1, 1), 0);
            kernel.tick(0, 1);
            Check.same("event 31 is", kernel.bits(1, 1), 0x80000000L);
            kernel.clear(-1);
            kernel.await(1);
            kernel.tick(0, 1);
            Check.same("it waits for another", kernel.task(1, 0), 3);
            kernel.signal(1, 1);
            kernel.clear(-1);
            kernel.await(Integer.MIN_VALUE);
            Check.same("it waits", kernel.task(1, 0), 3);
            kernel.tick(0, 1);
            Check.same("it waits no longer", kernel.task(1, 0), 2);
        });
        Edge.of("section 5", "calls: nothing.", () -> {
            StaticKernel kernel = Check.started("mode a counter c max 9 base 1 least 1 task t priority 1 auto a isr i level 1"
                    + " alarm x on c calls auto a in 1 every 1");
            kernel.tick(0, 3);
            Check.notes("met alone", kernel, 70000, 10000, 40000, 40000, 40000);
            Check.same("no ISR", kernel.isr(0, 2), 0);
            Check.same("t", kernel.atWork(), 0);
        });
    }

    private static void everyOrOnce() {
        Edge.of("section 5", "With EVERY 0 it is in use no more, else DUE is EVERY behind VALUE.", () -> {
            StaticKernel kernel = Check.started("mode a counter c max 9 base 1 least 1 task t priority 1 auto a"
                    + " alarm x on c calls auto a in 1 alarm y on c calls auto a in 1 every 1 alarm z on c calls auto"
                            + " a in 1 every 9");
            Check.same("all", kernel.tick(0, 1), 3);
            Check.same("0: in use no more", kernel.alarm(0, 0), NONE);
            Check.same("1", kernel.alarm(1, 0), 1);
            Check.same("max, round behind 0", kernel.alarm(2, 0), 9);
            Check.same("y eight times", kernel.tick(0, 8), 8);
            Check.same("y and z", kernel.tick(0, 1), 2);
            Check.same("VALUE", kernel.counter(0, 0), 0);
            Check.same("z again", kernel.alarm(2, 0), 9);
        });
    }

    // ---- promises 26 and 27

    private static void tick() {
        Edge.of("promise 26", "n TICKS of counter c, each by itself: how many alarms were met", () -> {
            StaticKernel kernel = Check.started("mode a counter b max 9 base 1 least 1 counter c max 1 base 1 least 1"
                    + " task t priority 1 auto a"
                    + Check.items(48, " alarm", " on c calls auto a in 1 every 1"));
            Check.same("none", kernel.tick(0, 1000), 0);
            Check.same("one TICK", kernel.tick(1, 1), 48);
            Check.same("a thousand", kernel.tick(1, 1000), 48000);
            Check.same("VALUE", kernel.counter(1, 0), 1);
            StaticKernel idle = Check.started("mode a counter c max 9 base 1 least 1 task t priority 1 alarm x on c"
                    + " starts t auto a in 2");
            Check.same("while it idles", idle.tick(0, 1), 0);
            Check.same("while it idles", idle.tick(0, 1), 1);
            Check.same("t", idle.running(), 0);
        });
    }

    private static void tickWhileShut() {
        Edge.of("promise 26", "While SHUT is above 0 they wait (at most 2,000 of a counter, those beyond are lost): 0.", () -> {
            StaticKernel kernel = Check.started("mode a counter c max 65535 base 1 least 1 counter d max 65535 base 1 least 1"
                    + " task t priority 1 auto a alarm x on c calls auto a in 1 every 1");
            kernel.shut();
            Check.same("1000", kernel.tick(0, 1000), 0);
            Check.same("999", kernel.tick(0, 999), 0);
            Check.same("wait", kernel.counter(0, 2), 1999);
            Check.same("one more", kernel.tick(0, 1), 0);
            Check.same("wait", kernel.counter(0, 2), 2000);
            Check.same("one beyond", kernel.tick(0, 1), 0);
            Check.same("lost", kernel.counter(0, 2), 2000);
            Check.same("of another counter", kernel.tick(1, 999), 0);
            Check.same("wait", kernel.counter(1, 2), 999);
            kernel.tick(1, 1000);
            Check.same("999 of these are lost", kernel.tick(1, 1000), 0);
            Check.same("wait", kernel.counter(1, 2), 2000);
            Check.same("VALUE", kernel.counter(0, 0), 0);
            kernel.open();
            Check.same("VALUE", kernel.counter(0, 0), 2000);
            Check.same("VALUE", kernel.counter(1, 0), 2000);
            Check.same("SHUT is 0", kernel.tick(0, 1), 1);
        });
    }

    private static void tickRefused() {
        Edge.of("promise 26", "NONE, and nothing is done, if the kernel is off", () -> {
            StaticKernel kernel = Check.built("mode a counter c max 9 base 1 least 1 task t priority 1 auto a");
            Check.same("off", kernel.tick(0, 1), NONE);
            kernel.start(0);
            Check.same("on", kernel.tick(0, 1), 0);
            kernel.halt(0);
            Check.same("off", kernel.tick(0, 1), NONE);
            Check.same("VALUE", kernel.counter(0, 0), 1);
        });
        Edge.of("promise 26", "there is no such counter, or n is not 1 .. 1000", () -> {
            StaticKernel kernel = Check.started("mode a counter b max 9 base 1 least 1 counter c max 9999 base 1 least"
                    + " 1 task t priority 1 auto a");
            Edge.each("counter", NONE, c -> kernel.tick(c, 1), Edge.NO_NUMBERS);
            Check.same("just beyond", kernel.tick(2, 1), NONE);
            Edge.each("n", NONE, n -> kernel.tick(1, n), 0, 1001, -1, Integer.MIN_VALUE, Integer.MAX_VALUE);
            Check.same("nothing is done", kernel.counter(1, 0), 0);
            Check.same("nothing is noted", kernel.count(6), 2);
            Check.same("1", kernel.tick(1, 1), 0);
            Check.same("1000", kernel.tick(1, 1000), 0);
            Check.same("VALUE", kernel.counter(1, 0), 1001);
            kernel.shut();
            Edge.each("n while it is shut", NONE, n -> kernel.tick(1, n), 0, 1001, -1);
            Check.same("no counter while it is shut", kernel.tick(2, 1), NONE);
            Check.same("none waits", kernel.counter(1, 2), 0);
        });
    }

    private static void call() {
        Edge.of("promise 27", "ISR i is CALLED: 0; 1, if it is already (nothing changes)", () -> {
            StaticKernel kernel = Check.started("mode a task t priority 1 auto a isr i level 1 isr j level 2");
            kernel.call(1);
            Check.same("called, and it does not begin", kernel.call(0), 0);
            String before = Edge.seen(kernel);
            Check.same("already", kernel.call(0), 1);
            Check.same("nothing changes", Edge.seen(kernel), before);
            Check.same("notes", kernel.count(6), 3);
            Check.same("begun is not called", kernel.call(1), 0);
            Check.same("now it is", kernel.call(1), 1);
        });
        Edge.of("promise 27", "NONE, if the kernel is off, or there is no such", () -> {
            StaticKernel kernel = Check.built("mode a task t priority 1 auto a isr i level 1 isr j level 2");
            Check.same("off", kernel.call(1), NONE);
            Check.same("not called", kernel.isr(1, 2), 0);
            kernel.start(0);
            Edge.each("call", NONE, kernel::call, Edge.NO_NUMBERS);
            Check.same("just beyond", kernel.call(2), NONE);
            Check.same("nothing began", kernel.atWork(), 0);
            Check.same("the last", kernel.call(1), 0);
            kernel.halt(0);
            Check.same("off", kernel.call(1), NONE);
        });
    }

    // ---- section 6

    private static void notesOfTasks() {
        Edge.of("section 6", "1 n: task n becomes RUNNING; 2 n: it is RUNNING no more (through, WAITING, PREEMPTED)", () -> {
            StaticKernel kernel = Check.started("mode a event e task t priority 5 auto a waits e task u priority 1 auto a");
            kernel.await(1);
            kernel.signal(0, 1);
            kernel.terminate();
            Check.notes("all", kernel, 70000, 10000, 20000, 10001, 20001, 10000, 20000, 10001);
            StaticKernel many = Check.started("mode a" + Check.items(47, " task", " priority 0") + " task last"
                    + " priority 63 auto a");
            Check.same("task 47", many.note(0), 10047);
            many.terminate();
            Check.same("task 47", many.note(0), 20047);
        });
    }

    private static void notesOfStatuses() {
        Edge.of("section 6", "3: status s of service v: n = 100 * v + s (of an alarm's action v is 20)", () -> {
            StaticKernel kernel = Check.started("mode a event e counter c max 9 base 1 least 1 task t priority 1 auto"
                    + " a task u priority 1 waits e"
                    + " alarm x on c starts t auto a in 1 alarm y on c sets u e auto a in 1");
            kernel.activate(9);
            Check.same("service 1, status 3", kernel.note(0), 30103);
            kernel.leave();
            Check.same("service 17, status 2", kernel.note(0), 31702);
            kernel.shut();
            kernel.leave();
            Check.same("service 17, status 9", kernel.note(0), 31709);
            kernel.open();
            kernel.tick(0, 1);
            Check.latest("alarms", kernel, 40000, 32004, 40001, 32007);
        });
    }

    private static void notesOfTheRest() {
        Edge.of("section 6", "4 n: alarm n is met (ahead of its action)", () -> {
            StaticKernel kernel = Check.started("mode a counter c max 9 base 1 least 1 task t priority 1"
                    + Check.items(47, " alarm", " on c calls")
                    + " alarm last on c starts t auto a in 1");
            kernel.tick(0, 1);
            Check.notes("all", kernel, 70000, 40047, 10000);
        });
        Edge.of("section 6", "5 n: ISR n begins; 6 n: it ends", () -> {
            StaticKernel kernel = Check.started("mode a" + Check.items(15, " isr", " level 1") + " isr last level 16");
            kernel.call(15);
            kernel.leave();
            kernel.call(0);
            kernel.leave();
            Check.notes("all", kernel, 70000, 50015, 60015, 50000, 60000);
        });
        Edge.of("section 6", "7 n: start in mode n (the first of all)", () -> {
            StaticKernel kernel = Check.built(Check.items(8, "mode", "") + "task t priority 1 auto ahz");
            kernel.start(7);
            Check.notes("all", kernel, 70007, 10000);
            kernel.halt(0);
            kernel.start(0);
            Check.notes("all", kernel, 70000);
        });
        Edge.of("section 6", "8 n: halt (n is the lowest seven bits of the code; tasks and ISRs that were at work are"
                + " not NOTED)", () -> {
            int[] codes = {0, 1, 127, 128, 129, 255, 256, -1, -128, Integer.MIN_VALUE, Integer.MAX_VALUE};
            int[] due = {0, 1, 127, 0, 1, 127, 0, 127, 0, 0, 127};
            StaticKernel kernel = Check.built("mode a task t priority 1 auto a isr i level 1");
            for (int i = 0; i < codes.length; i++) {
                kernel.start(0);
                kernel.call(0);
                Check.same("halt", kernel.halt(codes[i]), 0);
                Check.notes("code " + codes[i], kernel, 70000, 10000, 50000, 80000 + due[i]);
            }
        });
    }

    private static void notesKept() {
        Edge.of("section 6", "The latest 500 are kept.", () -> {
            StaticKernel kernel = Check.started("mode a counter c max 9 base 1 least 1 alarm x on c calls auto a in 1 every 1");
            kernel.tick(0, 498);
            Check.same("499", kernel.count(6), 499);
            Check.same("the first", kernel.note(498), 70000);
            Check.missing("none", () -> kernel.note(499));
            kernel.tick(0, 1);
            Check.same("500", kernel.count(6), 500);
            Check.same("the first", kernel.note(499), 70000);
            Check.missing("none", () -> kernel.note(500));
            kernel.tick(0, 1);
            Check.same("501", kernel.count(6), 501);
            Check.same("the first is lost", kernel.note(499), 40000);
            Check.missing("none", () -> kernel.note(500));
            kernel.tick(0, 1000);
            Check.same("1501", kernel.count(6), 1501);
            Check.same("the oldest kept", kernel.note(499), 40000);
            Check.missing("none", () -> kernel.note(500));
            Check.missing("none", () -> kernel.note(1500));
        });
    }
}
