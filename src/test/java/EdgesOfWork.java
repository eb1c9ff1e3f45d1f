/** Section 3: AT WORK and SETTLING; and promise 7, by which the work begins. */
final class EdgesOfWork {
    private static final int NONE = StaticKernel.NONE;

    private EdgesOfWork() {
    }

    static void all() {
        atWork();
        shutHoldsBack();
        settlingBehindEach();
        whichIsrsBegin();
        ofLikeIsrs();
        tasksBehindIsrs();
        whichTaskRuns();
        startRefused();
        startInAMode();
    }

    private static void atWork() {
        Edge.of("section 3", "AT WORK is the ISR that began last and has not ended; without one the RUNNING task; else"
                + " nobody (the kernel idles).", () -> {
            StaticKernel kernel = Check.started("mode a task t priority 1 auto a isr i level 1 isr j level 2");
            Check.same("the task", kernel.atWork(), 0);
            kernel.call(0);
            Check.same("i", kernel.atWork(), 100);
            kernel.call(1);
            Check.same("j began last", kernel.atWork(), 101);
            kernel.leave();
            Check.same("j has ended", kernel.atWork(), 100);
            kernel.leave();
            Check.same("the task", kernel.atWork(), 0);
            kernel.terminate();
            Check.same("nobody", kernel.atWork(), NONE);
            Check.same("on yet", kernel.count(1), 1);
            kernel.call(1);
            Check.same("an ISR without a task", kernel.atWork(), 101);
            kernel.leave();
            Check.same("nobody", kernel.atWork(), NONE);
        });
    }

    private static void shutHoldsBack() {
        Edge.of("section 3", "SHUT is how many shut() were not met by an open().", () -> {
            StaticKernel kernel = Check.started("mode a task t priority 1 auto a");
            int[] due = {1, 2, 3, 2, 1, 2, 1, 0};
            boolean[] shuts = {true, true, true, false, false, true, false, false};
            for (int n = 0; n < due.length; n++) {
                Check.same("done", shuts[n] ? kernel.shut() : kernel.open(), 0);
                Check.same("SHUT", kernel.count(3), due[n]);
            }
            Check.same("one open() more", kernel.open(), 5);
            Check.same("SHUT", kernel.count(3), 0);
        });
        Edge.of("section 3", "while the kernel is on and SHUT is 0", () -> {
            StaticKernel kernel = Check.started("mode a task t priority 1 auto a isr i level 1 isr j level 16");
            kernel.shut();
            kernel.shut();
            kernel.call(0);
            kernel.call(1);
            Check.same("SHUT is 2", kernel.atWork(), 0);
            kernel.open();
            Check.same("SHUT is 1", kernel.atWork(), 0);
            Check.same("called yet", kernel.isr(1, 2), 1);
            kernel.open();
            Check.same("SHUT is 0", kernel.atWork(), 101);
            kernel.shut();
            kernel.leave();
            kernel.tick(0, 1);
            Check.same("SHUT is 1 again", kernel.atWork(), 101);
            kernel.halt(0);
            Check.same("off", kernel.atWork(), NONE);
            Check.same("off", kernel.call(0), NONE);
            Check.same("off", kernel.atWork(), NONE);
        });
    }

    private static void settlingBehindEach() {
        Edge.of("section 3", "SETTLING, behind each service of section 4, each TICK that is done, each call() and"
                + " start()", () -> {
            String plan = "mode a mode b counter c max 9 base 1 least 1 task t priority 1 auto a task u priority 2"
                    + " task v priority 3"
                    + " isr i level 1 alarm x on c starts u auto a in 1 alarm y on c starts v auto a in 2";
            StaticKernel kernel = Check.built(plan);
            kernel.start(0);
            Check.same("behind start()", kernel.running(), 0);
            kernel.activate(1);
            Check.same("behind a service", kernel.running(), 1);
            kernel.call(0);
            Check.same("behind call()", kernel.atWork(), 100);
            StaticKernel ticks = Check.started(plan);
            ticks.tick(0, 2);
            Check.notes("behind each TICK", ticks, 70000, 10000, 40000, 20000, 10001, 40001, 20001, 10002);
            StaticKernel waited = Check.started(plan);
            waited.shut();
            waited.tick(0, 2);
            waited.open();
            Check.notes("behind each that waited", waited, 70000, 10000, 40000, 20000, 10001, 40001, 20001, 10002);
            StaticKernel idle = Check.built(plan);
            idle.start(1);
            idle.call(0);
            Check.same("while it idles", idle.atWork(), 100);
        });
    }

    private static void whichIsrsBegin() {
        Edge.of("section 3", "as long as there is an ISR that is CALLED and whose PRIORITY is above the CURRENT"
                + " PRIORITY of what is at work", () -> {
            StaticKernel kernel = Check.started("mode a resource r task t priority 1 auto a uses r isr i level 1 isr j"
                    + " level 2 uses r isr k level 3");
            kernel.take(1);
            kernel.call(0);
            Check.same("64 is below 65", kernel.atWork(), 0);
            kernel.call(1);
            Check.same("65 is not above 65", kernel.atWork(), 0);
            kernel.call(2);
            Check.same("66 is", kernel.atWork(), 102);
            kernel.call(2);
            Check.same("66 is not above 66", kernel.count(4), 1);
            Check.same("called", kernel.isr(2, 2), 1);
            kernel.leave();
            Check.same("66 again", kernel.atWork(), 102);
            kernel.leave();
            Check.same("t has r yet", kernel.atWork(), 0);
            kernel.give(1);
            Check.same("65 is above 1", kernel.atWork(), 101);
            kernel.leave();
            Check.same("64 is above 1", kernel.atWork(), 100);
            kernel.call(1);
            Check.same("65 is above 64", kernel.atWork(), 101);
            Check.same("both are begun", kernel.count(4), 2);
        });
        Edge.of("section 3", "(nobody: each one's is)", () -> {
            StaticKernel kernel = Check.started("mode a isr i level 1");
            Check.same("nobody", kernel.atWork(), NONE);
            kernel.call(0);
            Check.same("the lowest one", kernel.atWork(), 100);
        });
        Edge.of("section 3", "begins, and is CALLED no more", () -> {
            StaticKernel kernel = Check.started("mode a isr i level 1");
            kernel.call(0);
            Check.same("called", kernel.isr(0, 2), 0);
            kernel.leave();
            Check.same("it does not begin again", kernel.atWork(), NONE);
        });
    }

    private static void ofLikeIsrs() {
        Edge.of("section 3", "the greatest such (of like ones the first)", () -> {
            StaticKernel kernel = Check.started("mode a task t priority 1 auto a isr h level 1 isr i level 15 isr j"
                    + " level 16 isr k level 16 isr l level 1");
            kernel.shut();
            for (int i = 4; i >= 0; i--) {
                kernel.call(i);
            }
            kernel.open();
            for (int due : new int[] {102, 103, 101, 100, 104}) {
                Check.same("at work", kernel.atWork(), due);
                Check.same("alone", kernel.count(4), 1);
                kernel.leave();
            }
            Check.same("the task", kernel.atWork(), 0);
        });
    }

    private static void tasksBehindIsrs() {
        Edge.of("section 3", "Then, if no ISR is at work", () -> {
            StaticKernel kernel = Check.started("mode a task t priority 1 auto a task u priority 63 isr i level 1 isr j level 1");
            kernel.call(0);
            kernel.activate(1);
            kernel.call(1);
            Check.same("t is running below i", kernel.running(), 0);
            kernel.leave();
            Check.same("t is running below j", kernel.running(), 0);
            Check.same("j", kernel.atWork(), 101);
            kernel.leave();
            Check.same("u", kernel.running(), 1);
            StaticKernel idle = Check.started("mode a task t priority 1 isr i level 1");
            idle.call(0);
            idle.activate(0);
            Check.same("none runs below i", idle.running(), NONE);
            idle.leave();
            Check.same("t", idle.running(), 0);
        });
    }

    private static void whichTaskRuns() {
        Edge.of("section 3", "if no task is RUNNING, the TOP (if there is one) becomes RUNNING", () -> {
            StaticKernel kernel = Check.started("mode a task t priority 0 auto a task u priority 0 auto a whole");
            Check.same("the first of ROW 0", kernel.running(), 0);
            kernel.terminate();
            Check.same("the next", kernel.running(), 1);
            kernel.terminate();
            Check.same("there is none", kernel.running(), NONE);
            Check.same("nobody is at work", kernel.terminate(), 10);
        });
        Edge.of("section 3", "else if the RUNNING task is not WHOLE and the TOP lies in a ROW above its CURRENT"
                + " PRIORITY, that is PREEMPTED", () -> {
            String tasks = " resource r task t priority 4 auto a uses r %s task u priority 4 task v priority 5 task w"
                    + " priority 7 uses r"
                    + " task x priority 8";
            StaticKernel kernel = Check.started("mode a" + String.format(tasks, ""));
            kernel.activate(1);
            Check.same("the same ROW is not above", kernel.running(), 0);
            Check.notes("it was not even preempted", kernel, 70000, 10000);
            kernel.take(1);
            kernel.activate(2);
            kernel.activate(3);
            Check.same("ROW 7 is not above 7", kernel.running(), 0);
            Check.notes("it was not even preempted", kernel, 70000, 10000);
            kernel.activate(4);
            Check.same("ROW 8 is", kernel.running(), 4);
            kernel.terminate();
            kernel.give(1);
            Check.same("ROW 7 is above 4", kernel.running(), 3);
            kernel.terminate();
            Check.same("ROW 5 is above 4", kernel.running(), 2);
            kernel.terminate();
            Check.same("t is ahead of u", kernel.running(), 0);
            StaticKernel whole = Check.started("mode a" + String.format(tasks, "whole"));
            whole.activate(4);
            Check.same("whole", whole.running(), 0);
            Check.same("not preempted", whole.count(6), 2);
        });
        Edge.of("section 3", "(it keeps what it has)", () -> {
            StaticKernel kernel = Check.started("mode a resource r resource s internal task t priority 4 auto a uses"
                    + " r,s task u priority 5");
            kernel.take(1);
            kernel.activate(1);
            Check.same("u", kernel.running(), 1);
            Check.same("two", kernel.task(0, 3), 2);
            Check.same("r", kernel.resource(1, 1), 0);
            Check.same("s", kernel.resource(2, 1), 0);
        });
    }

    // ---- promise 7

    private static void startRefused() {
        Edge.of("promise 7", "7, if the kernel is not off", () -> {
            StaticKernel kernel = Check.started("mode a mode b task t priority 1 auto a");
            Check.same("mode 1", kernel.start(1), 7);
            Check.same("mode 2, that is none", kernel.start(2), 7);
            Check.same("mode yet", kernel.count(2), 0);
            kernel.terminate();
            Check.same("idle", kernel.start(0), 7);
            Check.same("idle yet", kernel.atWork(), NONE);
        });
        Edge.of("promise 7", "3, if there is no such mode", () -> {
            StaticKernel kernel = Check.built(Check.items(8, "mode", ""));
            Edge.each("start", 3, kernel::start, Edge.NO_NUMBERS);
            Check.same("start(8)", kernel.start(8), 3);
            Check.same("off", kernel.count(1), 0);
            Check.same("start(7)", kernel.start(7), 0);
            Check.same("mode", kernel.count(2), 7);
            Check.same("no mode at all", new StaticKernel().start(0), 3);
        });
        Edge.of("promise 7", "(A status that isn't 0 is not NOTED.)", () -> {
            StaticKernel kernel = Check.built("mode a");
            kernel.start(1);
            Check.same("3", kernel.count(6), 0);
            kernel.start(0);
            kernel.start(0);
            Check.notes("7", kernel, 70000);
        });
    }

    private static void startInAMode() {
        String plan = "mode a mode b counter c max 9 base 3 least 1 task t priority 1 auto a,b task u priority 1 auto"
                + " b task v priority 1 auto a"
                + " task z priority 2 alarm x on c calls auto b,a in 9 every 2 alarm y on c calls auto b in 1 alarm w on c calls";
        Edge.of("promise 7", "all VALUES and TICKS are 0, nothing is NOTED, the kernel is on", () -> {
            StaticKernel kernel = Check.started(plan);
            kernel.tick(0, 5);
            kernel.halt(0);
            Check.same("value", kernel.counter(0, 0), 1);
            Check.same("ticks", kernel.counter(0, 1), 2);
            Check.same("start", kernel.start(1), 0);
            Check.same("value", kernel.counter(0, 0), 0);
            Check.same("ticks", kernel.counter(0, 1), 0);
            Check.same("on", kernel.count(1), 1);
            Check.notes("all", kernel, 70001, 10000);
        });
        Edge.of("promise 7", "then, in order, the tasks whose auto has this mode get a REQUEST each", () -> {
            StaticKernel kernel = Check.built(plan);
            kernel.start(0);
            Check.same("t first", kernel.running(), 0);
            Edge.row(kernel, 1, 2);
            Check.same("requests", kernel.count(5), 2);
            kernel.halt(0);
            kernel.start(1);
            Check.same("t first", kernel.running(), 0);
            Edge.row(kernel, 1, 1);
            Check.same("none of no auto", kernel.task(3, 1), 0);
        });
        Edge.of("promise 7", "the alarms whose auto has it are in use as by after(in, every) (0 without every)", () -> {
            StaticKernel kernel = Check.built(plan);
            kernel.start(0);
            Check.same("x in", kernel.alarm(0, 0), 9);
            Check.same("x every", kernel.alarm(0, 1), 2);
            Check.same("y is not of this mode", kernel.alarm(1, 0), NONE);
            kernel.halt(0);
            kernel.start(1);
            Check.same("x in", kernel.alarm(0, 0), 9);
            Check.same("y in", kernel.alarm(1, 0), 1);
            Check.same("y every", kernel.alarm(1, 1), 0);
            Check.same("w has no auto", kernel.alarm(2, 0), NONE);
            Check.same("met", kernel.tick(0, 3), 1);
            Check.same("y once", kernel.alarm(1, 0), NONE);
        });
    }
}
