/** Promises 28 to 38: what there is to see. */
final class EdgesOfAnswers {
    private static final int NONE = StaticKernel.NONE;
    private static final int MOST = Integer.MAX_VALUE;
    private static final int LEAST = Integer.MIN_VALUE;

    private EdgesOfAnswers() {
    }

    static void all() {
        atWork();
        running();
        taskStates();
        taskRequests();
        taskRefused();
        bits();
        resourceHad();
        resourceGroups();
        isr();
        counter();
        alarm();
        row();
        note();
        counts();
        countsOfNotes();
        countsThatStayNought();
    }

    private static void atWork() {
        Edge.of("promise 28", "a task's number, 100 + an ISR's; NONE: nobody, or off", () -> {
            StaticKernel kernel = Check.built("mode a" + Check.items(47, " task", " priority 0") + " task last priority 63 auto a"
                    + Check.items(15, " isr", " level 1").replace("z level", "y level") + " isr top level 16");
            Check.same("off", kernel.atWork(), NONE);
            kernel.start(0);
            Check.same("task 47", kernel.atWork(), 47);
            kernel.call(0);
            Check.same("ISR 0", kernel.atWork(), 100);
            kernel.call(15);
            Check.same("ISR 15", kernel.atWork(), 115);
            kernel.leave();
            kernel.leave();
            kernel.chain(0);
            Check.same("task 0", kernel.atWork(), 0);
            kernel.terminate();
            Check.same("nobody", kernel.atWork(), NONE);
            kernel.call(0);
            kernel.halt(0);
            Check.same("off", kernel.atWork(), NONE);
        });
    }

    private static void running() {
        Edge.of("promise 29", "The RUNNING task (also below an ISR); NONE.", () -> {
            StaticKernel kernel = Check.built("mode a task s priority 0 task t priority 1 auto a isr i level 1");
            Check.same("off", kernel.running(), NONE);
            kernel.start(0);
            Check.same("t", kernel.running(), 1);
            kernel.call(0);
            Check.same("below an ISR", kernel.running(), 1);
            kernel.leave();
            kernel.terminate();
            Check.same("none", kernel.running(), NONE);
            kernel.call(0);
            Check.same("none below an ISR", kernel.running(), NONE);
            kernel.halt(0);
            Check.same("off", kernel.running(), NONE);
        });
    }

    // ---- promise 30

    private static final String TASKS = "mode a event e resource r resource q internal task t priority 2 auto a uses r,q limit 8"
            + " task u priority 9 uses r,q task v priority 63 whole waits e task w priority 0 ";

    private static void taskStates() {
        Edge.of("promise 30", "0 its STATE, 1 its REQUESTS", () -> {
            StaticKernel kernel = Check.started(TASKS);
            Check.same("running", kernel.task(0, 0), 2);
            Check.same("one", kernel.task(0, 1), 1);
            kernel.activate(0);
            Check.same("two", kernel.task(0, 1), 2);
            kernel.activate(2);
            Check.same("ready", kernel.task(0, 0), 1);
            Check.same("running", kernel.task(2, 0), 2);
            kernel.await(1);
            Check.same("waiting", kernel.task(2, 0), 3);
            Check.same("one", kernel.task(2, 1), 1);
            Check.same("suspended", kernel.task(3, 0), 0);
            Check.same("none", kernel.task(3, 1), 0);
        });
        Edge.of("promise 30", "4 its PRIORITY, 5 its LIMIT, 6 1 if it is WHOLE, else 0", () -> {
            StaticKernel kernel = Check.started(TASKS);
            int[][] due = {{2, 8, 0}, {9, 1, 0}, {63, 1, 1}, {0, 1, 0}};
            for (int t = 0; t < due.length; t++) {
                for (int what = 4; what <= 6; what++) {
                    Check.same("task " + t + ", " + what, kernel.task(t, what), due[t][what - 4]);
                }
            }
        });
    }

    private static void taskRequests() {
        Edge.of("promise 30", "2 the CURRENT PRIORITY of its REQUEST that is RUNNING, WAITING or first in the ROWS"
                + " (the highest ROW first; its PRIORITY, if it is SUSPENDED)", () -> {
            StaticKernel kernel = Check.started(TASKS);
            Check.same("running, with its internal one", kernel.task(0, 2), 9);
            kernel.activate(0);
            kernel.activate(1);
            Check.same("ready, never run", kernel.task(1, 2), 9);
            kernel.activate(2);
            Edge.row(kernel, 9, 0, 1);
            Edge.row(kernel, 2, 0);
            Check.same("first in the highest ROW", kernel.task(0, 2), 9);
            kernel.await(1);
            Check.same("waiting", kernel.task(2, 2), 63);
            kernel.terminate();
            Check.same("its other one, never run", kernel.task(0, 2), 2);
            Check.same("suspended", kernel.task(3, 2), 0);
            kernel.halt(0);
            Check.same("off", kernel.task(0, 2), 2);
        });
        Edge.of("promise 30", "3 how many resources that has (the internal one, too)", () -> {
            StaticKernel kernel = Check.started(TASKS);
            Check.same("the internal one", kernel.task(0, 3), 1);
            kernel.take(1);
            Check.same("two", kernel.task(0, 3), 2);
            kernel.take(0);
            Check.same("three", kernel.task(0, 3), 3);
            kernel.give(0);
            kernel.give(1);
            Check.same("the internal one", kernel.task(0, 3), 1);
            kernel.activate(0);
            kernel.terminate();
            Check.same("its other one, running", kernel.task(0, 3), 1);
            kernel.terminate();
            Check.same("suspended", kernel.task(0, 3), 0);
            StaticKernel full = Check.started("mode a" + Check.items(31, " resource", "") + "task t priority 1 auto a");
            Check.same("none", full.task(0, 3), 0);
        });
    }

    private static void taskRefused() {
        Edge.of("promise 30", "NONE for another what.", () -> {
            StaticKernel kernel = Check.started(TASKS);
            Edge.each("what", NONE, what -> kernel.task(0, what), -1, 7, LEAST, MOST);
        });
        Edge.of("promise 30", "NoSuchElementException: there is no such task.", () -> {
            StaticKernel kernel = Check.started(TASKS);
            Check.same("the last", kernel.task(3, 4), 0);
            Edge.missing("task", t -> kernel.task(t, 0), Edge.NO_NUMBERS);
            Check.missing("just beyond", () -> kernel.task(4, 0));
            Check.missing("just beyond, and another what", () -> kernel.task(4, 7));
        });
    }

    private static void bits() {
        String plan = "mode a " + Check.items(32, "event", "") + "task t priority 1 auto a waits aaz,bfz task u"
                + " priority 0 task v priority 0 waits abz";
        Edge.of("promise 31", "the bits of its EVENTS (what 0), of those that are SET (1), that it is WAITING for (2)", () -> {
            StaticKernel kernel = Check.started(plan);
            Check.same("events 0 and 31", kernel.bits(0, 0), 0x80000001L);
            Check.same("none", kernel.bits(1, 0), 0);
            Check.same("event 1", kernel.bits(2, 0), 2);
            Check.same("none set", kernel.bits(0, 1), 0);
            kernel.signal(0, LEAST);
            Check.same("31 is set, from 0 on", kernel.bits(0, 1), 0x80000000L);
            Check.same("it does not wait", kernel.bits(0, 2), 0);
            kernel.clear(-1);
            kernel.await(-1);
            Check.same("it waits, from 0 on", kernel.bits(0, 2), 0x80000001L);
        });
        Edge.of("promise 31", "0 for another what.", () -> {
            StaticKernel kernel = Check.started(plan);
            Edge.each("what", 0, what -> kernel.bits(0, what), -1, 3, LEAST, MOST);
        });
        Edge.of("promise 31", "NoSuchElementException likewise.", () -> {
            StaticKernel kernel = Check.started(plan);
            Check.same("the last", kernel.bits(2, 0), 2);
            Edge.missing("bits", t -> kernel.bits(t, 0), Edge.NO_NUMBERS);
            Check.missing("just beyond", () -> kernel.bits(3, 0));
            Check.missing("just beyond, and another what", () -> kernel.bits(3, 3));
        });
    }

    // ---- promise 32

    private static void resourceHad() {
        Edge.of("promise 32", "1 who has it (a task, 100 + an ISR; NONE: nobody", () -> {
            StaticKernel kernel = Check.started("mode a resource r task s priority 0 task t priority 1 auto a uses r"
                    + " isr h level 1 isr i level 1 uses r");
            Check.same("nobody", kernel.resource(1, 1), NONE);
            kernel.take(1);
            Check.same("task 1", kernel.resource(1, 1), 1);
            kernel.give(1);
            Check.same("nobody", kernel.resource(1, 1), NONE);
            kernel.call(1);
            kernel.take(1);
            Check.same("ISR 1", kernel.resource(1, 1), 101);
            Check.same("the SCHEDULER", kernel.resource(0, 1), NONE);
        });
        // Several never have one: whoever has it lies in a ROW not below any that uses it, and ahead of these.
        Edge.of("promise 32", "of an internal one that several have, the least)", () -> {
            StaticKernel kernel = Check.started("mode a resource q internal task s priority 9 uses q task t priority 1"
                    + " auto a uses q limit 2"
                    + " task u priority 12 task v priority 9 uses q");
            Check.same("t", kernel.resource(1, 1), 1);
            kernel.activate(0);
            kernel.activate(3);
            kernel.activate(1);
            kernel.activate(2);
            Check.same("t has it yet, preempted", kernel.resource(1, 1), 1);
            for (int due : new int[] {1, 0, 3, 1}) {
                kernel.terminate();
                Check.same("running", kernel.running(), due);
                Check.same("the one who has it", kernel.resource(1, 1), due);
            }
            kernel.terminate();
            Check.same("nobody", kernel.resource(1, 1), NONE);
        });
    }

    private static void resourceGroups() {
        String plan = "mode a resource r as t resource s internal resource t resource u resource v as u";
        Edge.of("promise 32", "0 its CEILING", () -> {
            StaticKernel kernel = Check.built(plan + " task w priority 0 uses v task x priority 63 uses s isr i level 16 uses r");
            int[] due = {63, 79, 63, 79, 0, 0};
            for (int r = 0; r < due.length; r++) {
                Check.same("resource " + r, kernel.resource(r, 0), due[r]);
            }
            Check.same("of none", Check.built(plan).resource(1, 0), -1);
            Check.same("of none", Check.built(plan).resource(0, 0), -1);
        });
        Edge.of("promise 32", "2 the least resource of its GROUP, 3 1 if it is internal, else 0", () -> {
            StaticKernel kernel = Check.built(plan);
            int[] least = {0, 1, 2, 1, 4, 4};
            for (int r = 0; r < least.length; r++) {
                Check.same("resource " + r, kernel.resource(r, 2), least[r]);
                Check.same("resource " + r, kernel.resource(r, 3), r == 2 ? 1 : 0);
            }
        });
        Edge.of("promise 32", "NONE for another what.", () -> {
            StaticKernel kernel = Check.built(plan);
            Edge.each("what", NONE, what -> kernel.resource(0, what), -1, 4, LEAST, MOST);
        });
        Edge.of("promise 32", "NoSuchElementException: there is no such resource.", () -> {
            StaticKernel kernel = Check.built(plan);
            Check.same("the last", kernel.resource(5, 2), 4);
            Edge.missing("resource", r -> kernel.resource(r, 0), Edge.NO_NUMBERS);
            Check.missing("just beyond", () -> kernel.resource(6, 0));
            Check.missing("just beyond, and another what", () -> kernel.resource(6, 4));
            Check.same("the SCHEDULER of no PLAN", new StaticKernel().resource(0, 3), 0);
            Check.missing("resource 1 of no PLAN", () -> new StaticKernel().resource(1, 0));
        });
    }

    private static void isr() {
        String plan = "mode a resource r task t priority 1 auto a isr i level 1 uses r isr j level 2 uses r isr k level 16";
        Edge.of("promise 33", "0 its CURRENT PRIORITY (its PRIORITY, if it isn't begun)", () -> {
            StaticKernel kernel = Check.started(plan);
            Check.same("not begun", kernel.isr(0, 0), 64);
            Check.same("not begun", kernel.isr(2, 0), 79);
            kernel.call(0);
            Check.same("begun", kernel.isr(0, 0), 64);
            kernel.take(1);
            Check.same("with r", kernel.isr(0, 0), 65);
            kernel.call(2);
            Check.same("with r, below another", kernel.isr(0, 0), 65);
            kernel.halt(0);
            Check.same("off", kernel.isr(0, 0), 64);
        });
        Edge.of("promise 33", "1 its place among those that are begun (from 0, the first that began; NONE)", () -> {
            StaticKernel kernel = Check.started(plan);
            Edge.each("not begun", NONE, i -> kernel.isr(i, 1), 0, 1, 2);
            kernel.call(1);
            Check.same("j", kernel.isr(1, 1), 0);
            kernel.call(2);
            Check.same("k", kernel.isr(2, 1), 1);
            kernel.call(0);
            Check.same("i is called only", kernel.isr(0, 1), NONE);
            kernel.leave();
            Check.same("k has ended", kernel.isr(2, 1), NONE);
            kernel.leave();
            Check.same("j has ended", kernel.isr(1, 1), NONE);
            Check.same("i", kernel.isr(0, 1), 0);
        });
        Edge.of("promise 33", "2 1 if it is CALLED, else 0", () -> {
            StaticKernel kernel = Check.started(plan);
            Check.same("no", kernel.isr(0, 2), 0);
            kernel.call(0);
            Check.same("begun, no more", kernel.isr(0, 2), 0);
            kernel.call(0);
            Check.same("begun, and called again", kernel.isr(0, 2), 1);
        });
        Edge.of("promise 33", "NONE for another what.", () -> {
            StaticKernel kernel = Check.started(plan);
            Edge.each("what", NONE, what -> kernel.isr(0, what), -1, 3, LEAST, MOST);
        });
        Edge.of("promise 33", "NoSuchElementException likewise.", () -> {
            StaticKernel kernel = Check.started(plan);
            Edge.missing("isr", i -> kernel.isr(i, 0), Edge.NO_NUMBERS);
            Check.missing("just beyond", () -> kernel.isr(3, 0));
            Check.missing("just beyond, and another what", () -> kernel.isr(3, 3));
        });
    }

    private static void counter() {
        String plan = "mode a counter b max 1 base 1 least 1 counter c max 65535 base 1000 least 65534 task t priority 1 auto a";
        Edge.of("promise 34", "0 VALUE, 1 TICKS since its latest step, 2 TICKS that wait, 3 max, 4 base, 5 least", () -> {
            StaticKernel kernel = Check.started(plan);
            kernel.tick(0, 1);
            kernel.tick(1, 1000);
            kernel.tick(1, 999);
            kernel.shut();
            kernel.tick(1, 2);
            int[][] due = {{1, 0, 0, 1, 1, 1}, {1, 999, 2, 65535, 1000, 65534}};
            for (int what = 0; what < 6; what++) {
                Check.same("b " + what, kernel.counter(0, what), due[0][what]);
                Check.same("c " + what, kernel.counter(1, what), due[1][what]);
            }
        });
        Edge.of("promise 34", "NONE for another what.", () -> {
            StaticKernel kernel = Check.built(plan);
            Edge.each("what", NONE, what -> kernel.counter(0, what), -1, 6, LEAST, MOST);
        });
        Edge.of("promise 34", "NoSuchElementException likewise.", () -> {
            StaticKernel kernel = Check.built(plan);
            Edge.missing("counter", c -> kernel.counter(c, 0), Edge.NO_NUMBERS);
            Check.missing("just beyond", () -> kernel.counter(2, 0));
            Check.missing("just beyond, and another what", () -> kernel.counter(2, 6));
        });
    }

    private static void alarm() {
        String plan = "mode a event e event f counter b max 9 base 1 least 1 counter c max 65535 base 1 least 1 task t"
                + " priority 1 auto a"
                + " task u priority 1 waits f alarm x on c sets u f auto a in 65535 every 1 alarm y on b starts t"
                        + " alarm z on b calls auto a in 1";
        Edge.of("promise 35", "0 in how many steps it is met (NONE: not in use), 1 its EVERY (NONE likewise)", () -> {
            StaticKernel kernel = Check.built(plan);
            Check.same("off", kernel.alarm(0, 0), NONE);
            Check.same("off", kernel.alarm(0, 1), NONE);
            kernel.start(0);
            Check.same("x in", kernel.alarm(0, 0), 65535);
            Check.same("x every", kernel.alarm(0, 1), 1);
            Check.same("y in", kernel.alarm(1, 0), NONE);
            Check.same("y every", kernel.alarm(1, 1), NONE);
            Check.same("z in", kernel.alarm(2, 0), 1);
            Check.same("z every", kernel.alarm(2, 1), 0);
            kernel.tick(0, 1);
            Check.same("z was met", kernel.alarm(2, 0), NONE);
            Check.same("z was met", kernel.alarm(2, 1), NONE);
            kernel.at(2, 1, 0);
            Check.same("a whole round", kernel.alarm(2, 0), 10);
            kernel.shut();
            Check.same("while it is shut", kernel.alarm(2, 0), 10);
        });
        Edge.of("promise 35", "2 its counter, 3 its task (NONE: calls), 4 its event (NONE: none)", () -> {
            StaticKernel kernel = Check.built(plan);
            int[][] due = {{1, 1, 1}, {0, 0, NONE}, {0, NONE, NONE}};
            for (int a = 0; a < 3; a++) {
                for (int what = 2; what <= 4; what++) {
                    Check.same("alarm " + a + ", " + what, kernel.alarm(a, what), due[a][what - 2]);
                }
            }
        });
        Edge.of("promise 35", "NONE for another what.", () -> {
            StaticKernel kernel = Check.started(plan);
            Edge.each("what", NONE, what -> kernel.alarm(0, what), -1, 5, LEAST, MOST);
        });
        Edge.of("promise 35", "NoSuchElementException likewise.", () -> {
            StaticKernel kernel = Check.started(plan);
            Edge.missing("alarm", a -> kernel.alarm(a, 0), Edge.NO_NUMBERS);
            Check.missing("just beyond", () -> kernel.alarm(3, 0));
            Check.missing("just beyond, and another what", () -> kernel.alarm(3, 5));
        });
    }

    private static void row() {
        Edge.of("promise 36", "The task of the i-th REQUEST (from 0) of ROW p; NONE if there is none such.", () -> {
            StaticKernel kernel = Check.started("mode a task s priority 63 whole auto a task t priority 0 limit 8 task"
                    + " u priority 0 task v priority 63");
            for (int t : new int[] {1, 2, 1, 3}) {
                kernel.activate(t);
            }
            Check.same("the first of 0", kernel.row(0, 0), 1);
            Check.same("the second of 0", kernel.row(0, 1), 2);
            Check.same("the last of 0", kernel.row(0, 2), 1);
            Edge.each("row 0,", NONE, i -> kernel.row(0, i), 3, -1, LEAST, MOST);
            Check.same("the one of 63, the running one is none", kernel.row(63, 0), 3);
            Edge.each("row 63,", NONE, i -> kernel.row(63, i), 1, -1);
            Edge.each("the first of row", NONE, p -> kernel.row(p, 0), 1, 62, 64, -1, LEAST, MOST);
            kernel.halt(0);
            Check.same("off", kernel.row(0, 0), NONE);
            Check.same("of no PLAN", new StaticKernel().row(0, 0), NONE);
        });
        Edge.of("promise 36", "of the i-th REQUEST", () -> {
            StaticKernel kernel = Check.started("mode a isr i level 1" + Check.items(48, " task", " priority 7 limit 8"));
            kernel.call(0);
            for (int n = 0; n < 8; n++) {
                for (int t = 0; t < 48; t++) {
                    Check.same("activate", kernel.activate(t), 0);
                }
            }
            Check.same("as many as there can be", kernel.count(5), 384);
            Check.same("the first", kernel.row(7, 0), 0);
            Check.same("the last", kernel.row(7, 383), 47);
            Check.same("none", kernel.row(7, 384), NONE);
        });
    }

    private static void note() {
        Edge.of("promise 37", "The k-th of the latest NOTES, the latest one 0. NoSuchElementException: none such is"
                + " kept.", () -> {
            StaticKernel kernel = Check.built("mode a task t priority 1 auto a");
            Check.missing("none at first", () -> kernel.note(0));
            kernel.start(0);
            Check.same("the latest", kernel.note(0), 10000);
            Check.same("the one ahead of it", kernel.note(1), 70000);
            Edge.missing("note", kernel::note, 2, -1, 499, 500, LEAST, MOST);
            kernel.activate(9);
            Check.same("the latest", kernel.note(0), 30103);
            Check.same("the first", kernel.note(2), 70000);
            Check.missing("none", () -> kernel.note(3));
            kernel.halt(0);
            kernel.start(0);
            Check.missing("none of before start()", () -> kernel.note(2));
        });
    }

    // ---- promise 38

    private static void counts() {
        String plan = "mode a mode b event e task t priority 9 auto b waits e task u priority 1 auto b limit 3 isr i"
                + " level 1 isr j level 2";
        Edge.of("promise 38", "0 bytes on the TAPE, 1 whether the kernel is on (1, 0), 2 its mode (NONE: off), 3 SHUT,"
                + " 4 how many ISRs are begun, 5 all REQUESTS", () -> {
            StaticKernel kernel = Check.built(plan);
            counted(kernel, 0, 0, NONE, 0, 0, 0);
            kernel.feed(0, 0, 0, 0, 0);
            counted(kernel, 20, 0, NONE, 0, 0, 0);
            kernel.start(1);
            counted(kernel, 20, 1, 1, 0, 0, 2);
            kernel.await(1);
            kernel.activate(1);
            counted(kernel, 20, 1, 1, 0, 0, 3);
            kernel.call(0);
            kernel.call(1);
            kernel.call(1);
            kernel.shut();
            kernel.shut();
            counted(kernel, 20, 1, 1, 2, 2, 3);
            kernel.halt(0);
            counted(kernel, 20, 0, NONE, 0, 0, 0);
            kernel.start(0);
            counted(kernel, 20, 1, 0, 0, 0, 0);
        });
        Edge.of("promise 38", "NONE for another what.", () -> {
            StaticKernel kernel = Check.started("mode a");
            Check.same("the last", kernel.count(8), 0);
            Edge.each("what", NONE, kernel::count, -1, 9, LEAST, MOST);
        });
    }

    private static void counted(StaticKernel kernel, int... due) {
        for (int what = 0; what < due.length; what++) {
            Check.same("count(" + what + ")", kernel.count(what), due[what]);
        }
    }

    private static void countsOfNotes() {
        Edge.of("promise 38", "6 NOTES since start() (those not kept, too)", () -> {
            StaticKernel kernel = Check.built("mode a counter c max 9 base 1 least 1 task t priority 1 auto a alarm x"
                    + " on c calls auto a in 1 every 1");
            Check.same("ahead of start()", kernel.count(6), 0);
            kernel.start(0);
            Check.same("start, and t", kernel.count(6), 2);
            kernel.tick(0, 498);
            Check.same("500", kernel.count(6), 500);
            kernel.tick(0, 1);
            Check.same("one not kept", kernel.count(6), 501);
            for (int n = 0; n < 20; n++) {
                kernel.tick(0, 1000);
            }
            Check.same("many not kept", kernel.count(6), 20501);
            kernel.halt(0);
            Check.same("off", kernel.count(6), 20502);
            kernel.start(0);
            Check.same("since start()", kernel.count(6), 2);
        });
    }

    private static void countsThatStayNought() {
        String plan = "mode a event e resource r resource q internal task t priority 1 auto a waits e uses r,q task u"
                + " priority 5 uses r,q task v priority 9"
                + " task w priority 3 whole isr i level 1 uses r isr j level 2";
        Edge.of("promise 38", "no task was RUNNING though there was a TOP, or one that is not WHOLE with the TOP in a"
                + " ROW above its CURRENT PRIORITY (always 0)", () -> {
            StaticKernel kernel = Check.started(plan);
            useAll(kernel);
            Check.same("count(7)", kernel.count(7), 0);
            kernel.halt(0);
            Check.same("off", kernel.count(7), 0);
        });
        Edge.of("promise 38", "8 how often, behind such a call, a resource that is not internal was had by two (always"
                + " 0)", () -> {
            StaticKernel kernel = Check.started(plan);
            useAll(kernel);
            Check.same("count(8)", kernel.count(8), 0);
            kernel.halt(0);
            Check.same("off", kernel.count(8), 0);
        });
    }

    /** Each kind of change of what is at work, with resources had and given. */
    private static void useAll(StaticKernel kernel) {
        kernel.take(1);
        kernel.activate(1);
        kernel.activate(2);
        kernel.take(1);
        kernel.terminate();
        kernel.call(1);
        kernel.take(1);
        kernel.activate(3);
        kernel.call(0);
        kernel.leave();
        kernel.give(1);
        kernel.take(1);
        kernel.leave();
        kernel.give(1);
        kernel.schedule();
        kernel.atWork();
        kernel.terminate();
        kernel.terminate();
        kernel.await(1);
        kernel.feed(0, 0, 0, 0, 0);
        kernel.call(0);
        kernel.take(1);
        kernel.signal(0, 1);
        kernel.give(1);
        kernel.shut();
        kernel.call(1);
        kernel.open();
        kernel.leave();
        kernel.leave();
        Check.same("t", kernel.running(), 0);
    }
}
