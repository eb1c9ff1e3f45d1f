/** Section 2: THINGS, REQUESTS and ROWS. */
final class EdgesOfThings {
    private static final int NONE = StaticKernel.NONE;

    private EdgesOfThings() {
    }

    static void all() {
        priorities();
        limits();
        basicTasks();
        groups();
        ceilings();
        currentPriority();
        requests();
        rowsThatThereAre();
        placesInRows();
        top();
        states();
        eventsOfANewRequest();
        internalResource();
        whenNothingIs();
        whatStays();
    }

    private static void priorities() {
        Edge.of("section 2", "A TASK has a PRIORITY 0 .. 63", () -> {
            StaticKernel kernel = Check.started("mode a task low priority 0 auto a task high priority 63 auto a");
            Check.same("low", kernel.task(0, 4), 0);
            Check.same("high", kernel.task(1, 4), 63);
            Check.same("high is running", kernel.running(), 1);
            Edge.row(kernel, 0, 0);
            Check.same("terminate", kernel.terminate(), 0);
            Check.same("low is running", kernel.running(), 0);
        });
        Edge.of("section 2", "is WHOLE (it is preempted by no task) or not", () -> {
            String tasks = " auto a task u priority 63 isr i level 1";
            StaticKernel whole = Check.started("mode a task t priority 0 whole" + tasks);
            StaticKernel not = Check.started("mode a task t priority 0" + tasks);
            whole.activate(1);
            not.activate(1);
            Check.same("whole", whole.running(), 0);
            Check.same("not", not.running(), 1);
            whole.call(0);
            Check.same("an ISR is no task", whole.atWork(), 100);
            whole.leave();
            Check.same("t yet", whole.running(), 0);
            whole.terminate();
            Check.same("then u", whole.running(), 1);
        });
        Edge.of("section 2", "An ISR has PRIORITY 63 + its level.", () -> {
            StaticKernel kernel = Check.started("mode a task t priority 63 auto a isr i level 1 isr j level 16");
            Check.same("level 1", kernel.isr(0, 0), 64);
            Check.same("level 16", kernel.isr(1, 0), 79);
            kernel.call(0);
            Check.same("above 63", kernel.atWork(), 100);
        });
    }

    private static void limits() {
        Edge.of("section 2", "has a LIMIT of REQUESTS (1 without one told)", () -> {
            StaticKernel kernel = Check.started("mode a task t priority 5 auto a task u priority 1 task v priority 1 limit 1"
                    + " task w priority 1 limit 8");
            int[] limits = {1, 1, 1, 8};
            for (int t = 0; t < 4; t++) {
                Check.same("limit", kernel.task(t, 5), limits[t]);
                for (int n = kernel.task(t, 1); n < limits[t]; n++) {
                    Check.same("up to it", kernel.activate(t), 0);
                }
                Check.same("beyond it", kernel.activate(t), 4);
                Check.same("requests", kernel.task(t, 1), limits[t]);
            }
        });
    }

    private static void basicTasks() {
        Edge.of("section 2", "EVENTS (those behind waits; without that part it is BASIC)", () -> {
            StaticKernel kernel = Check.started("mode a event e event f event g task t priority 1 auto a waits e,g"
                    + " task u priority 0 auto a");
            Check.same("events", kernel.bits(0, 0), 5);
            Check.same("no events", kernel.bits(1, 0), 0);
            Check.same("not basic", kernel.signal(0, 7), 0);
            Check.same("basic", kernel.signal(1, 7), 1);
            Check.same("not basic", kernel.clear(7), 0);
            kernel.terminate();
            Check.same("basic", kernel.clear(7), 1);
            Check.same("basic", kernel.await(7), 1);
        });
    }

    private static void groups() {
        Edge.of("section 2", "Resources that hang together by as are a GROUP", () -> {
            StaticKernel kernel = Check.built("resource p resource q as v resource r as q resource s resource u as v resource v"
                    + " resource w as s task t priority 9 uses r task x priority 4 uses w");
            int[] least = {0, 1, 2, 2, 4, 2, 2, 4};
            int[] ceiling = {9, -1, 9, 9, 4, 9, 9, 4};
            for (int r = 0; r < least.length; r++) {
                Check.same("least of " + r, kernel.resource(r, 2), least[r]);
                Check.same("ceiling of " + r, kernel.resource(r, 0), ceiling[r]);
            }
        });
    }

    private static void ceilings() {
        Edge.of("section 2", "their CEILING is the greatest PRIORITY of all tasks and isrs that use one of the GROUP"
                + " (-1 of none)", () -> {
            StaticKernel kernel = Check.started("mode a resource n resource z resource p resource q as p resource r"
                    + " task t priority 0 auto a uses z,p task u priority 63 uses q task v priority 7 uses r,q"
                    + " isr i level 16 uses r isr j level 1 uses r");
            int[] due = {63, -1, 0, 63, 63, 79};
            for (int r = 0; r < due.length; r++) {
                Check.same("ceiling of " + r, kernel.resource(r, 0), due[r]);
            }
            Check.same("none may take one of none", kernel.take(1), 1);
            Check.same("0 may take one of 0", kernel.take(2), 0);
        });
        Edge.of("section 2", "the SCHEDULER's that of all tasks (-1 without)", () -> {
            Check.same("without", Check.built("isr i level 16").resource(0, 0), -1);
            Check.same("without a PLAN", new StaticKernel().resource(0, 0), -1);
            Check.same("one of 0", Check.built("task t priority 0 isr i level 16").resource(0, 0), 0);
            Check.same("the greatest", Check.built("task t priority 3 task u priority 63 task v priority 2").resource(0, 0), 63);
            StaticKernel kernel = Check.built("task t priority 63");
            kernel.build(0);
            Check.same("without again", kernel.resource(0, 0), -1);
        });
    }

    private static void currentPriority() {
        Edge.of("section 2", "The CURRENT PRIORITY of a task or ISR is the greatest of its PRIORITY and the CEILINGS"
                + " of the resources that it HAS.", () -> {
            StaticKernel kernel = Check.started("mode a resource own resource low resource high resource isr_s"
                    + " task t priority 5 auto a uses own,low,high,isr_s task u priority 6 uses low task v priority 9 uses high"
                    + " isr i level 3 uses isr_s isr j level 1 uses isr_s");
            Check.same("none", kernel.task(0, 2), 5);
            kernel.take(1);
            Check.same("one like its own", kernel.task(0, 2), 5);
            kernel.take(3);
            Check.same("a higher one", kernel.task(0, 2), 9);
            kernel.take(2);
            Check.same("one between", kernel.task(0, 2), 9);
            kernel.take(4);
            Check.same("an isr's", kernel.task(0, 2), 66);
            kernel.give(4);
            Check.same("the highest of the rest", kernel.task(0, 2), 9);
            kernel.give(2);
            kernel.give(3);
            Check.same("one like its own", kernel.task(0, 2), 5);
            kernel.call(1);
            Check.same("an ISR's own", kernel.isr(1, 0), 64);
            kernel.take(4);
            Check.same("with a resource", kernel.isr(1, 0), 66);
        });
    }

    private static void requests() {
        Edge.of("section 2", "A REQUEST is a task that was activated and is not through.", () -> {
            StaticKernel kernel = Check.started("mode a event e task t priority 1 limit 3 auto a task u priority 2 waits e");
            kernel.activate(0);
            kernel.activate(1);
            kernel.await(1);
            Check.same("ready, running and waiting", kernel.count(5), 3);
            kernel.activate(9);
            kernel.activate(1);
            Check.same("refused ones are none", kernel.count(5), 3);
            kernel.terminate();
            Check.same("one is through", kernel.count(5), 2);
            kernel.signal(1, 1);
            Check.same("one waits no longer", kernel.count(5), 2);
            kernel.terminate();
            kernel.terminate();
            Check.same("all are through", kernel.count(5), 0);
            kernel.terminate();
            Check.same("none, not below", kernel.count(5), 0);
        });
        Edge.of("section 2", "One is RUNNING at most", () -> {
            StaticKernel kernel = Check.started("mode a task t priority 1 auto a task u priority 1 auto a limit 2 task"
                    + " v priority 2 auto a");
            for (int n = 0; n < 4; n++) {
                int running = 0;
                for (int t = 0; t < 3; t++) {
                    running += kernel.task(t, 0) == 2 ? 1 : 0;
                }
                Check.same("running", running, n < 3 ? 1 : 0);
                kernel.terminate();
            }
        });
        Edge.of("section 2", "a task that WAITS has one", () -> {
            StaticKernel kernel = Check.started("mode a event e task t priority 5 auto a waits e task u priority 1 auto a");
            kernel.await(1);
            Check.same("requests", kernel.task(0, 1), 1);
            Check.same("all", kernel.count(5), 2);
            Check.same("no other one", kernel.activate(0), 4);
            Check.same("requests", kernel.task(0, 1), 1);
            Edge.row(kernel, 5);
        });
    }

    private static void rowsThatThereAre() {
        Edge.of("section 2", "All others lie in ROWS, one for each number 0 .. 63", () -> {
            StaticKernel kernel = Check.started("mode a task t priority 63 whole auto a task low priority 0 auto a"
                    + " task high priority 63 auto a");
            Edge.row(kernel, 0, 1);
            Edge.row(kernel, 63, 2);
            for (int p = 1; p < 63; p++) {
                Edge.row(kernel, p);
            }
            Edge.row(kernel, -1);
            Edge.row(kernel, 64);
        });
    }

    private static void placesInRows() {
        Edge.of("section 2", "a new one comes behind the last one of the ROW of its task's PRIORITY", () -> {
            StaticKernel kernel = Check.started("mode a task t priority 9 auto a task u priority 5 limit 2 task v"
                    + " priority 5 limit 2"
                    + " task w priority 6 task x priority 4");
            for (int t : new int[] {1, 2, 4, 3, 2, 1}) {
                kernel.activate(t);
            }
            Edge.row(kernel, 5, 1, 2, 2, 1);
            Edge.row(kernel, 6, 3);
            Edge.row(kernel, 4, 4);
        });
        Edge.of("section 2", "so does one that WAITS no longer", () -> {
            StaticKernel kernel = Check.started("mode a event e task t priority 5 auto a waits e task u priority 5 limit 3"
                    + " isr i level 1");
            kernel.await(1);
            kernel.call(0);
            kernel.activate(1);
            kernel.activate(1);
            kernel.signal(0, 1);
            kernel.activate(1);
            Edge.row(kernel, 5, 1, 1, 0, 1);
        });
        Edge.of("section 2", "one that is PREEMPTED comes ahead of the first one of the ROW of its CURRENT PRIORITY", () -> {
            StaticKernel kernel = Check.started("mode a resource r task t priority 1 auto a uses r limit 2 task u"
                    + " priority 5 uses r"
                    + " task v priority 1 task w priority 6 task x priority 4");
            kernel.activate(2);
            kernel.activate(0);
            kernel.take(1);
            kernel.activate(1);
            kernel.activate(4);
            kernel.activate(3);
            Check.same("w", kernel.running(), 3);
            Edge.row(kernel, 5, 0, 1);
            Edge.row(kernel, 4, 4);
            Edge.row(kernel, 1, 2, 0);
            kernel.terminate();
            kernel.give(1);
            Check.same("u", kernel.running(), 1);
            Edge.row(kernel, 5);
            Edge.row(kernel, 1, 0, 2, 0);
        });
    }

    private static void top() {
        Edge.of("section 2", "The TOP is the first one of the highest ROW that is not empty.", () -> {
            StaticKernel kernel = Check.started("mode a task s priority 63 whole auto a task t priority 0 limit 2 task"
                    + " u priority 62"
                    + " task v priority 62 task w priority 63 task x priority 1");
            for (int t : new int[] {1, 5, 3, 2, 4, 1}) {
                kernel.activate(t);
            }
            for (int due : new int[] {4, 3, 2, 5, 1, 1, NONE}) {
                kernel.terminate();
                Check.same("the next", kernel.running(), due);
            }
        });
    }

    private static void states() {
        Edge.of("section 2", "A task's STATE: 2 RUNNING, 3 WAITING, 1 READY (it is neither, and has a REQUEST), 0"
                + " SUSPENDED.", () -> {
            StaticKernel kernel = Check.started("mode a event e task t priority 5 auto a waits e task u priority 4"
                    + " auto a limit 2 task v priority 3 auto a"
                    + " task w priority 9");
            kernel.await(1);
            kernel.activate(1);
            int[] due = {3, 2, 1, 0};
            for (int t = 0; t < 4; t++) {
                Check.same("state of " + t, kernel.task(t, 0), due[t]);
            }
            kernel.terminate();
            Check.same("running with its other one", kernel.task(1, 0), 2);
            kernel.activate(1);
            kernel.activate(3);
            Check.same("preempted", kernel.task(1, 0), 1);
            kernel.terminate();
            kernel.terminate();
            kernel.terminate();
            Check.same("through", kernel.task(1, 0), 0);
            kernel.terminate();
            Check.same("waiting yet", kernel.task(0, 0), 3);
            StaticKernel woken = Check.started("mode a event e task t priority 5 auto a waits e task u priority 4 auto a whole");
            woken.await(1);
            woken.signal(0, 1);
            Check.same("it waits no longer", woken.task(0, 0), 1);
            woken.terminate();
            Check.same("running", woken.task(0, 0), 2);
            woken.terminate();
            Check.same("through", woken.task(0, 0), 0);
        });
    }

    private static void eventsOfANewRequest() {
        Edge.of("section 2", "When a task with EVENTS that is SUSPENDED gets a REQUEST, none of its EVENTS are SET.", () -> {
            StaticKernel kernel = Check.started("mode a event e event f task t priority 5 auto a waits e,f task u"
                    + " priority 1 auto a");
            kernel.signal(0, 3);
            Check.same("refused, it is not suspended", kernel.activate(0), 4);
            Check.same("set yet", kernel.bits(0, 1), 3);
            Check.same("chain to itself", kernel.chain(0), 0);
            Check.same("none", kernel.bits(0, 1), 0);
            kernel.signal(0, 2);
            kernel.terminate();
            Check.same("activate", kernel.activate(0), 0);
            Check.same("none", kernel.bits(0, 1), 0);
            Check.same("not even where it waits", kernel.await(3), 0);
            Check.same("waiting", kernel.task(0, 0), 3);
        });
    }

    private static void internalResource() {
        String plan = "mode a event e resource r internal task t priority 2 auto a waits e uses r task u priority 7 uses r"
                + " task v priority 9 task w priority 5 auto a";
        Edge.of("section 2", "A REQUEST that becomes RUNNING has its task's internal resource from then on (if it uses"
                + " one)", () -> {
            StaticKernel kernel = Check.started(plan);
            Check.same("w uses none", kernel.task(3, 3), 0);
            Check.same("t is ready", kernel.task(0, 3), 0);
            Check.same("t is ready", kernel.task(0, 2), 2);
            kernel.terminate();
            Check.same("t is running", kernel.task(0, 3), 1);
            Check.same("t is running", kernel.task(0, 2), 7);
            kernel.activate(2);
            Check.same("t is preempted", kernel.task(0, 3), 1);
            Edge.row(kernel, 7, 0);
        });
        Edge.of("section 2", "till it is through, WAITS or gives it in schedule()", () -> {
            StaticKernel kernel = Check.started(plan);
            kernel.terminate();
            kernel.activate(3);
            Check.same("had", kernel.resource(1, 1), 0);
            Check.same("schedule", kernel.schedule(), 0);
            Check.same("w", kernel.running(), 3);
            Check.same("given in schedule()", kernel.resource(1, 1), NONE);
            Edge.row(kernel, 2, 0);
            kernel.terminate();
            Check.same("had again", kernel.resource(1, 1), 0);
            Check.same("schedule without a TOP", kernel.schedule(), 0);
            Check.same("had yet", kernel.resource(1, 1), 0);
            kernel.await(1);
            Check.same("it waits", kernel.resource(1, 1), NONE);
            Check.same("it waits", kernel.task(0, 2), 2);
            StaticKernel other = Check.started(plan);
            other.terminate();
            other.terminate();
            Check.same("through", other.resource(1, 1), NONE);
            Check.same("through", other.task(0, 2), 2);
        });
    }

    private static final String FULL_OF_STATE = "mode a mode b event e resource r resource s internal counter c max 9"
            + " base 2 least 1"
            + " task t priority 5 auto a uses r,s limit 3 task u priority 9 waits e auto a task v priority 1 auto a"
                    + " task w priority 10 waits e auto a"
            + " isr i level 1 uses r isr j level 2 alarm x on c calls auto a in 5 every 2";

    private static StaticKernel fullOfState() {
        StaticKernel kernel = Check.started(FULL_OF_STATE);
        kernel.await(1);
        kernel.tick(0, 3);
        kernel.signal(1, 1);
        kernel.clear(0);
        kernel.chain(0);
        kernel.activate(1);
        kernel.await(1);
        kernel.take(1);
        kernel.call(1);
        kernel.take(0);
        kernel.signal(1, 1);
        kernel.shut();
        kernel.call(0);
        kernel.tick(0, 10);
        return kernel;
    }

    private static void whenNothingIs() {
        Edge.of("section 2", "nothing is at work, CALLED, SET or had, there are no REQUESTS, no alarm is in use, no"
                + " TICKS wait, SHUT is 0", () -> {
            String atFirst = Edge.seen(Check.built(FULL_OF_STATE)).replaceAll("counter 0: \\d+ \\d+", "counter 0: ? ?");
            StaticKernel kernel = fullOfState();
            Check.same("an ISR at work", kernel.atWork(), 101);
            Check.same("one called", kernel.isr(0, 2), 1);
            Check.same("set", kernel.bits(1, 1), 1);
            Check.same("had", kernel.resource(1, 1), 0);
            Check.same("internal, had", kernel.resource(2, 1), 0);
            Check.same("requests", kernel.count(5), 5);
            Check.same("one waits", kernel.task(3, 0), 3);
            Check.same("for e", kernel.bits(3, 2), 1);
            Check.same("an alarm in use", kernel.alarm(0, 1), 2);
            Check.same("ticks that wait", kernel.counter(0, 2), 10);
            Check.same("SHUT", kernel.count(3), 1);
            kernel.halt(0);
            Check.same("off", Edge.seen(kernel).replaceAll("counter 0: \\d+ \\d+", "counter 0: ? ?"), atFirst);
            kernel.build(Check.feed(kernel, FULL_OF_STATE));
            Check.same("built again", Edge.seen(kernel).replaceAll("counter 0: \\d+ \\d+", "counter 0: ? ?"), atFirst);
            Check.same("start in a mode without anything", kernel.start(1), 0);
            Check.same("nobody", kernel.atWork(), NONE);
            Check.same("no tick", kernel.counter(0, 0), 0);
        });
    }

    private static void whatStays() {
        Edge.of("section 2", "VALUES, TICKS since the latest step and NOTES stay when it goes off", () -> {
            StaticKernel kernel = fullOfState();
            int notes = kernel.count(6);
            int latest = kernel.note(0);
            kernel.halt(5);
            Check.same("value", kernel.counter(0, 0), 1);
            Check.same("ticks", kernel.counter(0, 1), 1);
            Check.same("notes", kernel.count(6), notes + 1);
            Check.same("the latest", kernel.note(0), 80005);
            Check.same("the one ahead of it", kernel.note(1), latest);
            Check.same("the first", kernel.note(notes), 70000);
            Check.same("a build() with a FAULT", kernel.build(Check.feed(kernel, "!")), NONE);
            Check.same("notes", kernel.count(6), notes + 1);
            Check.same("value", kernel.counter(0, 0), 1);
            Check.same("a build() that gives -2", kernel.build(1), -2);
            Check.same("the latest", kernel.note(0), 80005);
        });
        Edge.of("section 2", "(at first, and behind build(), they are 0, and none)", () -> {
            StaticKernel kernel = fullOfState();
            kernel.halt(5);
            kernel.build(Check.feed(kernel, FULL_OF_STATE));
            Check.same("value", kernel.counter(0, 0), 0);
            Check.same("ticks", kernel.counter(0, 1), 0);
            Check.same("notes", kernel.count(6), 0);
            Check.missing("note 0", () -> kernel.note(0));
            Check.same("at first", new StaticKernel().count(6), 0);
            Check.missing("note 0 at first", () -> new StaticKernel().note(0));
        });
    }
}
