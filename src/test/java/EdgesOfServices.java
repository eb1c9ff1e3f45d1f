/** Section 4 but for its alarms, and promises 8 to 17, 22 to 25. */
final class EdgesOfServices {
    private static final int NONE = StaticKernel.NONE;

    private EdgesOfServices() {
    }

    static void all() {
        nobody();
        shut();
        order();
        noted();
        changesNothing();
        activate();
        terminate();
        chain();
        schedule();
        take();
        give();
        signal();
        clear();
        await();
        given();
        shutAndOpen();
        leave();
        halt();
    }

    /** The status of a service by its number; given and left answer -s for a status s. */
    private static long serve(StaticKernel kernel, int service, int number) {
        long answer = Services.serve(kernel, service, number, 1, 0);
        return service == 10 || service == 14 ? -answer : answer;
    }

    // ---- what all services share

    private static void nobody() {
        String plan = "mode a mode b event e resource r counter c max 9 base 1 least 1 task t priority 1 auto a waits e uses r"
                + " isr i level 1 alarm x on c calls auto a,b in 1 every 1";
        Edge.of("section 4", "10: the kernel is off, or nobody is at work", () -> {
            for (int service = 1; service <= Services.MANY; service++) {
                StaticKernel kernel = Check.built(plan);
                Check.same("off, service " + service, serve(kernel, service, 0), 10);
                kernel.start(1);
                Check.same("nobody, service " + service, serve(kernel, service, 0), 10);
                Check.same("nobody, and no such thing", serve(kernel, service, 99), 10);
                kernel.call(0);
                Check.yes("an ISR is at work, service " + service, serve(kernel, service, 0) != 10);
                StaticKernel task = Check.started(plan);
                Check.yes("a task is at work, service " + service, serve(task, service, 0) != 10);
                StaticKernel halted = Check.started(plan);
                halted.halt(0);
                Check.same("off again, service " + service, serve(halted, service, 0), 10);
                Check.same("on", halted.count(1), 0);
            }
        });
        Edge.of("section 4", "But for 10 a status that isn't 0 is NOTED", () -> {
            for (int service = 1; service <= Services.MANY; service++) {
                StaticKernel kernel = Check.built(plan);
                kernel.start(1);
                serve(kernel, service, 0);
                Check.notes("10 is not, service " + service, kernel, 70001);
                if (service != 15 && service != 16 && service != 18) {
                    StaticKernel other = Check.started(plan);
                    other.shut();
                    Check.same("9", serve(other, service, 0), 9);
                    Check.notes("9 is, service " + service, other, 70000, 10000, 30009 + 100 * service);
                }
            }
        });
    }

    private static void shut() {
        Edge.of("section 4", "9: SHUT is above 0 (but for shut, open, halt)", () -> {
            for (int service = 1; service <= Services.MANY; service++) {
                boolean isFree = service == 15 || service == 16 || service == 18;
                StaticKernel kernel = Check.started("mode a event e task t priority 1 auto a waits e");
                kernel.shut();
                Check.same("SHUT is 1, service " + service, serve(kernel, service, 0), isFree ? 0 : 9);
                if (!isFree) {
                    Check.same("no such thing", serve(kernel, service, 99), 9);
                    kernel.open();
                    Check.yes("SHUT is 0, service " + service, serve(kernel, service, 0) != 9);
                }
            }
        });
    }

    private static void order() {
        Edge.of("section 4", "then the first of those told of the service, in the order told", () -> {
            StaticKernel kernel = Check.started("mode a event e resource r resource q internal counter c max 9 base 1 least 3"
                    + " task t priority 5 auto a uses r,q task u priority 1 task v priority 1 waits e isr i level 1 uses r"
                    + " alarm x on c calls auto a in 9");
            Check.same("take: 3 ahead of 1", kernel.take(2), 3);
            Check.same("signal: 1 ahead of 7", kernel.signal(1, 1), 1);
            Check.same("given: 1 ahead of 7", kernel.given(1), -1);
            Check.same("after: 7 ahead of 8", kernel.after(0, 0, 1), 7);
            Check.same("at: 7 ahead of 8", kernel.at(0, 10, 1), 7);
            kernel.activate(1);
            kernel.take(1);
            Check.same("chain: 6 ahead of 3", kernel.chain(9), 6);
            Check.same("chain: 6 ahead of 4", kernel.chain(1), 6);
            Check.same("await: 1 ahead of 6", kernel.await(1), 1);
            Check.same("leave: 2 ahead of 6", kernel.leave(), 2);
            kernel.give(1);
            kernel.call(0);
            kernel.take(1);
            Check.same("terminate: 2 ahead of 6", kernel.terminate(), 2);
            Check.same("chain: 2 ahead of 6 and 3", kernel.chain(9), 2);
            Check.same("schedule: 2 ahead of 6", kernel.schedule(), 2);
            Check.same("await: 2 ahead of 1", kernel.await(1), 2);
            Check.same("clear: 2 ahead of 1", kernel.clear(1), 2);
        });
    }

    private static void noted() {
        Edge.of("section 4", "(Numbers in ( ) are the service's, for the NOTES.)", () -> {
            StaticKernel kernel = Check.started("mode a counter c max 9 base 1 least 1 task t priority 1 auto a task u priority 1"
                    + " isr i level 1 alarm x on c calls");
            int[] due = {3, 0, 3, 0, 3, 3, 3, 1, 1, 3, 3, 3, 3, 3, 0, 5, 2, 0};
            for (int service = 1; service <= Services.MANY; service++) {
                int status = due[service - 1];
                if (status != 0) {
                    Check.same("service " + service, serve(kernel, service, 99), status);
                    Check.same("its note", kernel.note(0), 30000 + 100 * service + status);
                }
            }
            kernel.call(0);
            Check.same("terminate", kernel.terminate(), 2);
            Check.same("its note", kernel.note(0), 30202);
            Check.same("schedule", kernel.schedule(), 2);
            Check.same("its note", kernel.note(0), 30402);
            for (int n = 0; n < 100; n++) {
                kernel.shut();
            }
            Check.same("shut", kernel.shut(), 4);
            Check.same("its note", kernel.note(0), 31504);
        });
    }

    private static void changesNothing() {
        Edge.of("section 4", "and one that isn't 0 changes nothing else", () -> {
            StaticKernel kernel = Check.started("mode a event e resource r counter c max 9 base 1 least 2 task t"
                    + " priority 5 auto a waits e uses r"
                    + " task u priority 9 task v priority 1 waits e alarm x on c calls auto a in 9 alarm y on c calls");
            kernel.take(1);
            String before = Edge.seen(kernel);
            int notes = kernel.count(6);
            long[] statuses = {kernel.activate(0), kernel.terminate(), kernel.chain(1), kernel.schedule(), kernel.take(1),
                kernel.give(0), kernel.signal(2, 1), kernel.await(1), -kernel.given(2), kernel.after(0, 1, 0), kernel.at(0, 1, 0),
                kernel.after(1, 0, 0), kernel.after(1, 1, 1), kernel.at(1, 10, 0), kernel.cancel(1), -kernel.left(1),
                        kernel.open(),
                kernel.leave()};
            long[] due = {4, 6, 6, 6, 1, 5, 7, 6, 7, 7, 7, 8, 8, 8, 5, 5, 5, 2};
            for (int i = 0; i < due.length; i++) {
                Check.same("status " + i, statuses[i], due[i]);
            }
            Check.same("nothing else", Edge.seen(kernel), before);
            Check.same("notes", kernel.count(6), notes + due.length);
            kernel.shut();
            before = Edge.seen(kernel);
            for (int service = 1; service <= Services.MANY; service++) {
                if (service < 15 || service == 17) {
                    Check.same("9", serve(kernel, service, 1), 9);
                }
            }
            Check.same("nothing else while it is shut", Edge.seen(kernel), before);
        });
    }

    // ---- tasks

    private static void activate() {
        Edge.of("section 4", "activate(t) (1): 3 there is no such task", () -> {
            StaticKernel kernel = Check.started("mode a task t priority 1 auto a task u priority 1");
            Edge.each("activate", 3, kernel::activate, Edge.NO_NUMBERS);
            Check.same("just beyond", kernel.activate(2), 3);
            Check.same("the last", kernel.activate(1), 0);
        });
        Edge.of("section 4", "4 it has as many REQUESTS as its LIMIT. It gets one more.", () -> {
            StaticKernel kernel = Check.started("mode a task t priority 1 auto a limit 8 task u priority 0 limit 2"
                    + " task v priority 0");
            for (int n = 2; n <= 8; n++) {
                Check.same("t " + n, kernel.activate(0), 0);
                Check.same("t's requests", kernel.task(0, 1), n);
            }
            Check.same("t 9", kernel.activate(0), 4);
            Check.same("t's requests", kernel.task(0, 1), 8);
            Check.same("u 1", kernel.activate(1), 0);
            Check.same("u 2", kernel.activate(1), 0);
            Check.same("u 3", kernel.activate(1), 4);
            Check.same("v 1", kernel.activate(2), 0);
            Check.same("v 2", kernel.activate(2), 4);
            kernel.terminate();
            Check.same("t again", kernel.activate(0), 0);
        });
        Edge.of("promise 8", "Service 1.", () -> {
            StaticKernel kernel = Check.started("mode a task t priority 1 auto a task u priority 2");
            Check.same("done", kernel.activate(1), 0);
            Check.same("u", kernel.running(), 1);
            Check.same("at its limit", kernel.activate(1), 4);
            Check.notes("all", kernel, 70000, 10000, 20000, 10001, 30104);
        });
    }

    private static void terminate() {
        Edge.of("section 4", "terminate() (2): 2 an ISR is at work; 6 the task has a resource (other than its internal"
                + " one).", () -> {
            StaticKernel kernel = Check.started("mode a resource r resource q internal task t priority 1 auto a uses"
                    + " r,q limit 2 isr i level 1");
            kernel.call(0);
            Check.same("an ISR", kernel.terminate(), 2);
            kernel.leave();
            kernel.take(1);
            kernel.take(0);
            Check.same("two resources", kernel.terminate(), 6);
            kernel.give(0);
            Check.same("one resource", kernel.terminate(), 6);
            kernel.give(1);
            Check.same("the internal one", kernel.task(0, 3), 1);
            Check.same("the internal one alone", kernel.terminate(), 0);
        });
        Edge.of("section 4", "Its REQUEST is through.", () -> {
            StaticKernel kernel = Check.started("mode a task t priority 1 auto a limit 2");
            kernel.activate(0);
            Check.same("the first", kernel.terminate(), 0);
            Check.same("requests", kernel.task(0, 1), 1);
            Check.same("the second", kernel.terminate(), 0);
            Check.same("requests", kernel.task(0, 1), 0);
            Check.same("no more", kernel.terminate(), 10);
        });
        Edge.of("promise 9", "Service 2.", () -> {
            StaticKernel kernel = Check.started("mode a task t priority 1 auto a task u priority 0 auto a");
            kernel.take(0);
            Check.same("refused", kernel.terminate(), 6);
            kernel.give(0);
            Check.same("done", kernel.terminate(), 0);
            Check.notes("all", kernel, 70000, 10000, 30206, 20000, 10001);
        });
    }

    private static void chain() {
        String plan = "mode a resource r task t priority 1 auto a uses r limit 2 task u priority 5 limit 2 task v"
                + " priority 0 isr i level 1";
        Edge.of("section 4", "chain(t) (3): 2, 6 as above; 3", () -> {
            StaticKernel kernel = Check.started(plan);
            kernel.call(0);
            Check.same("an ISR", kernel.chain(1), 2);
            kernel.leave();
            kernel.take(1);
            Check.same("a resource", kernel.chain(1), 6);
            kernel.give(1);
            Edge.each("chain", 3, kernel::chain, Edge.NO_NUMBERS);
            Check.same("just beyond", kernel.chain(3), 3);
            Check.same("it runs on", kernel.running(), 0);
            Check.same("the last", kernel.chain(2), 0);
            Check.same("v", kernel.running(), 2);
        });
        Edge.of("section 4", "4 (for another one than the task itself)", () -> {
            StaticKernel kernel = Check.started(plan);
            kernel.activate(2);
            Check.same("v is at its limit", kernel.chain(2), 4);
            kernel.activate(0);
            Check.same("t is, too", kernel.activate(0), 4);
            Check.same("but itself", kernel.chain(0), 0);
            Check.same("requests", kernel.task(0, 1), 2);
            Check.same("and again", kernel.chain(0), 0);
            Check.same("u is not", kernel.chain(1), 0);
            Check.same("requests of t", kernel.task(0, 1), 1);
            Check.same("u", kernel.running(), 1);
        });
        Edge.of("section 4", "The task's REQUEST is through, then t gets one.", () -> {
            StaticKernel kernel = Check.started("mode a task t priority 1 auto a task u priority 1 auto a");
            Check.same("itself", kernel.chain(0), 0);
            Check.same("behind u", kernel.running(), 1);
            Edge.row(kernel, 1, 0);
            Check.same("t is at its limit", kernel.chain(0), 4);
        });
        Edge.of("promise 10", "Service 3.", () -> {
            StaticKernel kernel = Check.started("mode a task t priority 1 auto a task u priority 0");
            Check.same("refused", kernel.chain(2), 3);
            Check.same("done", kernel.chain(1), 0);
            Check.notes("all", kernel, 70000, 10000, 30303, 20000, 10001);
        });
    }

    private static void schedule() {
        String plan = "mode a resource r resource q internal task t priority 3 auto a uses r,q %s task u priority 3"
                + " task v priority 4"
                + " task w priority 8 uses q isr i level 1";
        Edge.of("section 4", "schedule() (4): 2, 6 as above.", () -> {
            StaticKernel kernel = Check.started(String.format(plan, ""));
            kernel.call(0);
            Check.same("an ISR", kernel.schedule(), 2);
            kernel.leave();
            kernel.take(1);
            Check.same("a resource", kernel.schedule(), 6);
            kernel.give(1);
            Check.same("the internal one alone", kernel.schedule(), 0);
        });
        for (String whole : new String[] {"", "whole"}) {
            Edge.of("section 4", "If the TOP lies in a ROW above the task's PRIORITY (its own, be it WHOLE or not)", () -> {
                StaticKernel kernel = Check.started(String.format(plan, whole));
                Check.same("no TOP", kernel.schedule(), 0);
                Check.same("t", kernel.running(), 0);
                kernel.activate(1);
                Check.same("ROW 3 is not above 3", kernel.schedule(), 0);
                Check.same("t", kernel.running(), 0);
                Check.notes("it was not even preempted", kernel, 70000, 10000);
                Check.same("it has the internal one yet", kernel.task(0, 3), 1);
                kernel.activate(2);
                Check.same("t, at 8", kernel.running(), 0);
                Check.same("ROW 4 is above 3", kernel.schedule(), 0);
                Check.same("v", kernel.running(), 2);
            });
        }
        Edge.of("section 4", "it gives its internal resource, is PREEMPTED, and the TOP becomes RUNNING", () -> {
            StaticKernel kernel = Check.started(String.format(plan, "whole"));
            kernel.activate(1);
            kernel.activate(3);
            Check.same("schedule", kernel.schedule(), 0);
            Check.same("w", kernel.running(), 3);
            Check.same("w has it", kernel.resource(2, 1), 3);
            Check.same("t has none", kernel.task(0, 3), 0);
            Edge.row(kernel, 3, 0, 1);
            Check.notes("all", kernel, 70000, 10000, 20000, 10003);
        });
        Edge.of("promise 11", "Service 4.", () -> {
            StaticKernel kernel = Check.started("mode a task t priority 1 auto a");
            kernel.take(0);
            Check.same("refused", kernel.schedule(), 6);
            kernel.give(0);
            Check.same("done", kernel.schedule(), 0);
            Check.notes("all", kernel, 70000, 10000, 30406);
        });
    }

    // ---- resources

    private static void take() {
        String plan = "mode a resource r resource s as r resource q internal resource z task t priority 5 auto a uses"
                + " r,q task u priority 4 uses z"
                + " task v priority 6 uses z isr i level 1 uses s isr j level 2";
        Edge.of("section 4", "take(r) (5): 3 no such resource, or an internal one", () -> {
            StaticKernel kernel = Check.started(plan);
            Edge.each("take", 3, kernel::take, Edge.NO_NUMBERS);
            Check.same("just beyond", kernel.take(5), 3);
            Check.same("internal", kernel.take(3), 3);
            Check.same("the last", kernel.take(4), 0);
            Check.same("the first", kernel.take(0), 0);
        });
        Edge.of("section 4", "1 something has it already, or the PRIORITY of what is at work is above its CEILING.", () -> {
            StaticKernel kernel = Check.started(plan);
            kernel.take(1);
            Check.same("t has it", kernel.take(1), 1);
            Check.same("s is another one", kernel.take(2), 0);
            kernel.give(2);
            kernel.give(1);
            kernel.call(0);
            Check.same("64 is not above 64", kernel.take(1), 0);
            kernel.call(1);
            Check.same("i has it", kernel.take(1), 1);
            kernel.leave();
            kernel.give(1);
            kernel.call(1);
            Check.same("65 is above 64", kernel.take(1), 1);
            Check.same("65 is above the SCHEDULER's", kernel.take(0), 1);
            StaticKernel low = Check.started("mode a resource r resource s resource n task t priority 5 auto a task u"
                    + " priority 5 uses r"
                    + " task v priority 4 uses s");
            Check.same("5 is not above 5", low.take(1), 0);
            Check.same("5 is above 4", low.take(2), 1);
            Check.same("5 is above -1", low.take(3), 1);
        });
        Edge.of("section 4", "What is at work has it.", () -> {
            StaticKernel kernel = Check.started(plan);
            kernel.take(1);
            Check.same("t", kernel.resource(1, 1), 0);
            kernel.give(1);
            kernel.call(0);
            kernel.take(1);
            Check.same("i", kernel.resource(1, 1), 100);
            Check.same("t has its internal one", kernel.task(0, 3), 1);
        });
        Edge.of("promise 12", "Service 5.", () -> {
            StaticKernel kernel = Check.started(plan);
            Check.same("done", kernel.take(1), 0);
            Check.same("refused", kernel.take(1), 1);
            Check.same("refused", kernel.take(3), 3);
            Check.notes("all", kernel, 70000, 10000, 30501, 30503);
        });
    }

    private static void give() {
        String plan = "mode a resource r resource s resource q internal task t priority 5 auto a uses r,s,q isr i level 1 uses s";
        Edge.of("section 4", "give(r) (6): 3 as above", () -> {
            StaticKernel kernel = Check.started(plan);
            Edge.each("give", 3, kernel::give, Edge.NO_NUMBERS);
            Check.same("just beyond", kernel.give(4), 3);
            Check.same("internal, had", kernel.give(3), 3);
            Check.same("the SCHEDULER", kernel.give(0), 5);
        });
        Edge.of("section 4", "5 it is not the one that what is at work took last of those that it has.", () -> {
            StaticKernel kernel = Check.started(plan);
            Check.same("none", kernel.give(1), 5);
            kernel.take(1);
            kernel.take(0);
            kernel.take(2);
            Check.same("the first", kernel.give(1), 5);
            Check.same("the second", kernel.give(0), 5);
            Check.same("the last", kernel.give(2), 0);
            Check.same("it is given", kernel.give(2), 5);
            Check.same("the second is the last now", kernel.give(0), 0);
            kernel.call(0);
            Check.same("t's, not i's", kernel.give(1), 5);
            kernel.leave();
            Check.same("the first", kernel.give(1), 0);
            Check.same("none", kernel.give(1), 5);
        });
        Edge.of("section 4", "It has it no more.", () -> {
            StaticKernel kernel = Check.started(plan);
            kernel.take(2);
            Check.same("current", kernel.task(0, 2), 64);
            kernel.give(2);
            Check.same("nobody has it", kernel.resource(2, 1), NONE);
            Check.same("current", kernel.task(0, 2), 5);
            Check.same("it may be taken", kernel.take(2), 0);
        });
        Edge.of("promise 13", "Service 6.", () -> {
            StaticKernel kernel = Check.started(plan);
            kernel.take(1);
            Check.same("done", kernel.give(1), 0);
            Check.same("refused", kernel.give(1), 5);
            Check.notes("all", kernel, 70000, 10000, 30605);
        });
    }

    // ---- events

    private static final String EVENTS = "mode a " + Check.items(32, "event", "") + "task t priority 5 auto a waits aaz,acz,bfz"
            + " task u priority 1 auto a task v priority 0 waits aaz isr i level 1";
    /** Of events 0, 2 and 31. */
    private static final long THREE = 0x80000005L;

    private static void signal() {
        Edge.of("section 4", "signal(t, mask) (7): 3; 1 it is BASIC; 7 it is SUSPENDED.", () -> {
            StaticKernel kernel = Check.started(EVENTS);
            Edge.each("signal", 3, t -> kernel.signal(t, 1), Edge.NO_NUMBERS);
            Check.same("just beyond", kernel.signal(3, 1), 3);
            Check.same("basic", kernel.signal(1, 1), 1);
            Check.same("suspended", kernel.signal(2, 1), 7);
            Check.same("suspended, of nothing", kernel.signal(2, 0), 7);
            kernel.activate(2);
            Check.same("the last, ready", kernel.signal(2, 1), 0);
            Check.same("running", kernel.signal(0, 1), 0);
            kernel.await(4);
            Check.same("waiting", kernel.signal(0, 1), 0);
        });
        Edge.of("section 4", "Of its EVENTS those whose bits (event i: bit i) are in mask are SET", () -> {
            StaticKernel kernel = Check.started(EVENTS);
            Check.same("no bit", kernel.signal(0, 0), 0);
            Check.same("none", kernel.bits(0, 1), 0);
            Check.same("bits of others", kernel.signal(0, 0x7ffffffa), 0);
            Check.same("none", kernel.bits(0, 1), 0);
            Check.same("event 31", kernel.signal(0, Integer.MIN_VALUE), 0);
            Check.same("it alone", kernel.bits(0, 1), 0x80000000L);
            Check.same("event 0", kernel.signal(0, 1), 0);
            Check.same("it, too", kernel.bits(0, 1), 0x80000001L);
            Check.same("every bit", kernel.signal(0, -1), 0);
            Check.same("all three", kernel.bits(0, 1), THREE);
        });
        Edge.of("section 4", "if it is WAITING for one that is SET now, it WAITS no longer", () -> {
            StaticKernel kernel = Check.started(EVENTS);
            kernel.await(0x80000001);
            Check.same("one that it has, not waited for", kernel.signal(0, 4), 0);
            Check.same("waiting", kernel.task(0, 0), 3);
            Check.same("none of its own", kernel.signal(0, 2), 0);
            Check.same("waiting", kernel.task(0, 0), 3);
            Check.same("one of two", kernel.signal(0, Integer.MIN_VALUE), 0);
            Check.same("running", kernel.task(0, 0), 2);
            Check.same("waits for none", kernel.bits(0, 2), 0);
            Check.same("set yet", kernel.bits(0, 1), 0x80000004L);
        });
        Edge.of("promise 14", "Service 7.", () -> {
            StaticKernel kernel = Check.started(EVENTS);
            Check.same("done", kernel.signal(0, 1), 0);
            Check.same("refused", kernel.signal(2, 1), 7);
            Check.notes("all", kernel, 70000, 10000, 30707);
        });
    }

    private static void clear() {
        Edge.of("section 4", "clear(mask) (8): 2 an ISR is at work; 1 the task is BASIC.", () -> {
            StaticKernel kernel = Check.started(EVENTS);
            kernel.call(0);
            Check.same("an ISR", kernel.clear(1), 2);
            kernel.leave();
            Check.same("t", kernel.clear(1), 0);
            kernel.terminate();
            Check.same("basic", kernel.clear(1), 1);
        });
        Edge.of("section 4", "Its EVENTS in mask are SET no more.", () -> {
            StaticKernel kernel = Check.started(EVENTS);
            kernel.signal(0, -1);
            Check.same("no bit", kernel.clear(0), 0);
            Check.same("all three", kernel.bits(0, 1), THREE);
            Check.same("bits of others", kernel.clear(0x7ffffffa), 0);
            Check.same("all three", kernel.bits(0, 1), THREE);
            Check.same("event 31", kernel.clear(Integer.MIN_VALUE), 0);
            Check.same("two", kernel.bits(0, 1), 5);
            Check.same("every bit", kernel.clear(-1), 0);
            Check.same("none", kernel.bits(0, 1), 0);
            Check.same("none is set", kernel.clear(-1), 0);
        });
        Edge.of("promise 15", "Service 8.", () -> {
            StaticKernel kernel = Check.started(EVENTS);
            Check.same("done", kernel.clear(1), 0);
            kernel.call(0);
            Check.same("refused", kernel.clear(1), 2);
            Check.notes("all", kernel, 70000, 10000, 50000, 30802);
        });
    }

    private static void await() {
        Edge.of("section 4", "await(mask) (9): 2; 1 as above; 6 as in terminate.", () -> {
            StaticKernel kernel = Check.started("mode a event e resource r resource q internal task t priority 5 auto"
                    + " a waits e uses r,q"
                    + " task u priority 1 auto a isr i level 1");
            kernel.call(0);
            Check.same("an ISR", kernel.await(1), 2);
            kernel.leave();
            kernel.take(1);
            Check.same("a resource", kernel.await(1), 6);
            kernel.signal(0, 1);
            Check.same("a resource, be it set", kernel.await(1), 6);
            kernel.give(1);
            kernel.clear(1);
            Check.same("the internal one alone", kernel.await(1), 0);
            Check.same("u", kernel.running(), 1);
            Check.same("basic", kernel.await(1), 1);
        });
        Edge.of("section 4", "If none of its EVENTS in mask is SET, it is WAITING for these (and gives its internal"
                + " resource).", () -> {
            StaticKernel kernel = Check.started(EVENTS);
            kernel.signal(0, 1);
            Check.same("set", kernel.await(1), 0);
            Check.same("running", kernel.task(0, 0), 2);
            Check.same("one of two is set", kernel.await(5), 0);
            Check.same("running", kernel.task(0, 0), 2);
            Check.same("bits(0, 2)", kernel.bits(0, 2), 0);
            Check.same("another one, and others'", kernel.await(0xfffffffe), 0);
            Check.same("waiting", kernel.task(0, 0), 3);
            Check.same("for these", kernel.bits(0, 2), 0x80000004L);
            StaticKernel none = Check.started(EVENTS);
            none.signal(0, 1);
            Check.same("none of its own", none.await(2), 0);
            Check.same("waiting", none.task(0, 0), 3);
            Check.same("for none", none.bits(0, 2), 0);
            Check.same("no bit", Check.started(EVENTS).await(0), 0);
            StaticKernel internal = Check.started("mode a event e resource q internal task t priority 5 auto a waits e"
                    + " uses q task u priority 9 uses q");
            internal.signal(0, 1);
            internal.await(1);
            Check.same("it does not wait, and has it", internal.task(0, 3), 1);
            internal.clear(1);
            internal.await(1);
            Check.same("it waits, and gave it", internal.task(0, 3), 0);
        });
        Edge.of("promise 16", "Service 9.", () -> {
            StaticKernel kernel = Check.started(EVENTS);
            Check.same("done", kernel.await(1), 0);
            Check.same("refused", kernel.await(1), 1);
            Check.notes("all", kernel, 70000, 10000, 20000, 10001, 30901);
        });
    }

    private static void given() {
        Edge.of("section 4", "given(t) (10): 3, 1, 7 as in signal: else a number from 0 on: the bits of the EVENTS of"
                + " t that are SET.", () -> {
            StaticKernel kernel = Check.started(EVENTS);
            Edge.each("given", -3, kernel::given, Edge.NO_NUMBERS);
            Check.same("just beyond", kernel.given(3), -3);
            Check.same("basic", kernel.given(1), -1);
            Check.same("suspended", kernel.given(2), -7);
            Check.same("none", kernel.given(0), 0);
            kernel.signal(0, Integer.MIN_VALUE);
            Check.same("event 31, from 0 on", kernel.given(0), 0x80000000L);
            kernel.signal(0, -1);
            Check.same("all three", kernel.given(0), THREE);
        });
        Edge.of("section 4", "(A status s comes as -s here, in left, too.)", () -> {
            StaticKernel kernel = Check.built("mode a counter c max 9 base 1 least 1 task t priority 1 auto a alarm x"
                    + " on c calls");
            Check.same("given, off", kernel.given(0), -10);
            Check.same("left, off", kernel.left(0), -10);
            kernel.start(0);
            Check.same("given", kernel.given(9), -3);
            Check.same("left", kernel.left(9), -3);
            Check.same("left", kernel.left(0), -5);
            Check.same("noted as it is", kernel.note(0), 31405);
            kernel.shut();
            Check.same("given, shut", kernel.given(0), -9);
            Check.same("left, shut", kernel.left(0), -9);
        });
        Edge.of("promise 17", "Service 10.", () -> {
            StaticKernel kernel = Check.started(EVENTS);
            kernel.signal(0, 4);
            Check.same("done", kernel.given(0), 4);
            Check.same("refused", kernel.given(2), -7);
            Check.notes("all", kernel, 70000, 10000, 31007);
        });
    }

    // ---- shut, open, leave, halt

    private static void shutAndOpen() {
        Edge.of("section 4", "shut() (15): 4 SHUT is 100. SHUT is one more.", () -> {
            StaticKernel kernel = Check.started("mode a task t priority 1 auto a");
            for (int n = 1; n <= 100; n++) {
                Check.same("shut " + n, kernel.shut(), 0);
                Check.same("SHUT", kernel.count(3), n);
            }
            Check.same("shut 101", kernel.shut(), 4);
            Check.same("SHUT", kernel.count(3), 100);
            kernel.open();
            Check.same("at 99", kernel.shut(), 0);
        });
        Edge.of("section 4", "open() (16): 5 SHUT is 0. SHUT is one less", () -> {
            StaticKernel kernel = Check.started("mode a task t priority 1 auto a");
            Check.same("at 0", kernel.open(), 5);
            kernel.shut();
            kernel.shut();
            Check.same("at 2", kernel.open(), 0);
            Check.same("SHUT", kernel.count(3), 1);
            Check.same("at 1", kernel.open(), 0);
            Check.same("at 0", kernel.open(), 5);
            Check.same("SHUT", kernel.count(3), 0);
        });
        Edge.of("section 4", "when it is 0 then, the TICKS that wait are done, counter by counter, each by itself, and"
                + " wait no more", () -> {
            StaticKernel kernel = Check.started("mode a counter c max 9 base 1 least 1 counter d max 9 base 2 least 1"
                    + " task t priority 1 auto a alarm x on d calls auto a in 1 every 1 alarm y on c calls auto a in 1 every 1");
            kernel.shut();
            kernel.shut();
            kernel.tick(1, 5);
            kernel.tick(0, 2);
            kernel.open();
            Check.same("SHUT is 1: they wait", kernel.counter(0, 2), 2);
            Check.same("SHUT is 1: they wait", kernel.counter(1, 2), 5);
            kernel.open();
            Check.same("they wait no more", kernel.counter(0, 2), 0);
            Check.same("they wait no more", kernel.counter(1, 2), 0);
            Check.same("c", kernel.counter(0, 0), 2);
            Check.same("d", kernel.counter(1, 0), 2);
            Check.same("d's ticks", kernel.counter(1, 1), 1);
            Check.notes("c's first", kernel, 70000, 10000, 40001, 40001, 40000, 40000);
            kernel.shut();
            kernel.open();
            Check.same("not once more", kernel.counter(0, 0), 2);
        });
        Edge.of("promise 22", "Service 15.", () -> {
            StaticKernel kernel = Check.started("mode a isr i level 1");
            Check.same("nobody", kernel.shut(), 10);
            kernel.call(0);
            Check.same("in an ISR", kernel.shut(), 0);
            Check.same("SHUT", kernel.count(3), 1);
        });
        Edge.of("promise 23", "Service 16.", () -> {
            StaticKernel kernel = Check.started("mode a task t priority 1 auto a");
            Check.same("refused", kernel.open(), 5);
            kernel.shut();
            Check.same("done", kernel.open(), 0);
            Check.notes("all", kernel, 70000, 10000, 31605);
        });
    }

    private static void leave() {
        Edge.of("section 4", "leave() (17): 2 no ISR is at work; 6 it has a resource.", () -> {
            StaticKernel kernel = Check.started("mode a resource r task t priority 1 auto a uses r isr i level 1 uses"
                    + " r isr j level 2");
            Check.same("no ISR", kernel.leave(), 2);
            kernel.call(0);
            kernel.take(1);
            Check.same("a resource", kernel.leave(), 6);
            kernel.call(1);
            Check.same("j has none", kernel.leave(), 0);
            kernel.give(1);
            Check.same("i has none", kernel.leave(), 0);
            kernel.take(1);
            kernel.call(1);
            Check.same("t's resource is not j's", kernel.leave(), 0);
        });
        Edge.of("section 4", "The ISR ends.", () -> {
            StaticKernel kernel = Check.started("mode a isr i level 1 isr j level 2");
            kernel.call(0);
            kernel.call(1);
            Check.same("two", kernel.count(4), 2);
            kernel.leave();
            Check.same("one", kernel.count(4), 1);
            Check.same("i", kernel.atWork(), 100);
            kernel.leave();
            Check.same("none", kernel.count(4), 0);
            Check.same("nobody is at work", kernel.leave(), 10);
        });
        Edge.of("promise 24", "Service 17.", () -> {
            StaticKernel kernel = Check.started("mode a task t priority 1 auto a isr i level 1");
            Check.same("refused", kernel.leave(), 2);
            kernel.call(0);
            Check.same("done", kernel.leave(), 0);
            Check.notes("all", kernel, 70000, 10000, 31702, 50000, 60000);
        });
    }

    private static void halt() {
        Edge.of("section 4", "halt(code) (18): the kernel is off.", () -> {
            StaticKernel kernel = Check.started("mode a task t priority 1 auto a isr i level 1");
            kernel.take(0);
            kernel.call(0);
            kernel.shut();
            Check.same("whatever is at work", kernel.halt(0), 0);
            Check.same("on", kernel.count(1), 0);
            Check.same("mode", kernel.count(2), NONE);
            Check.same("off already", kernel.halt(0), 10);
            Check.same("start again", kernel.start(0), 0);
        });
        Edge.of("promise 25", "Service 18.", () -> {
            StaticKernel kernel = Check.built("mode a task t priority 1");
            kernel.start(0);
            Check.same("nobody", kernel.halt(0), 10);
            Check.same("on yet", kernel.count(1), 1);
            StaticKernel other = Check.started("mode a task t priority 1 auto a");
            Check.same("done", other.halt(3), 0);
            Check.notes("all", other, 70000, 10000, 80003);
        });
    }
}
