/** Promises 18 to 21, 26, 34, 35: alarms, counters and their ticks. */
final class AlarmTest {
    private static final int NONE = StaticKernel.NONE;
    private static final String PLAN = "mode a counter c max 9 base 1 least 3 task t priority 1 auto a limit 2"
            + " alarm x on c calls alarm y on c calls ";

    public static void main(String[] args) {
        afterStatuses();
        afterGoesRound();
        atStatuses();
        atTheValueOfNow();
        cancelAndLeft();
        greatestCounter();
        stepsOfABase();
        everyAndOnce();
        alarmsThatStart();
        alarmsThatSet();
        alarmsInTheirOrder();
        tickStatuses();
        tickWhileIdle();
        tickByTickIsSettled();
        counterAnswers();
        alarmAnswers();
        Check.end("AlarmTest");
    }

    private static void afterStatuses() {
        StaticKernel kernel = Check.built(PLAN);
        Check.same("off", kernel.after(0, 1, 0), 10);
        kernel.start(0);
        Check.same("no alarm 2", kernel.after(2, 1, 0), 3);
        Check.same("no alarm -1", kernel.after(-1, 1, 0), 3);
        Check.same("in 0", kernel.after(0, 0, 0), 8);
        Check.same("in 10", kernel.after(0, 10, 0), 8);
        Check.same("in -1", kernel.after(0, -1, 0), 8);
        Check.same("every 2", kernel.after(0, 1, 2), 8);
        Check.same("every 10", kernel.after(0, 1, 10), 8);
        Check.same("every -1", kernel.after(0, 1, -1), 8);
        Check.same("every least int", kernel.after(0, 1, Integer.MIN_VALUE), 8);
        Check.same("not in use", kernel.alarm(0, 0), NONE);
        Check.same("done", kernel.after(0, 9, 3), 0);
        Check.same("in use", kernel.after(0, 99, 99), 7);
        Check.same("done", kernel.after(1, 1, 9), 0);
        kernel.shut();
        Check.same("shut", kernel.after(9, 1, 0), 9);
        kernel.open();
        kernel.terminate();
        Check.same("nobody", kernel.after(0, 1, 0), 10);
        Check.notes("all", kernel, 70000, 10000, 31103, 31103, 31108, 31108, 31108, 31108, 31108, 31108, 31108, 31107,
                31109, 20000);
    }

    private static void afterGoesRound() {
        StaticKernel kernel = Check.started(PLAN);
        kernel.tick(0, 8);
        Check.same("value", kernel.counter(0, 0), 8);
        Check.same("after 1", kernel.after(0, 1, 0), 0);
        Check.same("after 9", kernel.after(1, 9, 0), 0);
        Check.same("left", kernel.left(0), 1);
        Check.same("left", kernel.left(1), 9);
        Check.same("one", kernel.tick(0, 1), 1);
        Check.same("value 9", kernel.counter(0, 0), 9);
        Check.same("left", kernel.left(1), 8);
        Check.same("seven", kernel.tick(0, 7), 0);
        Check.same("value 6", kernel.counter(0, 0), 6);
        Check.same("the last", kernel.tick(0, 1), 1);
        Check.same("value 7", kernel.counter(0, 0), 7);
        Check.same("not in use", kernel.left(1), -5);
    }

    private static void atStatuses() {
        StaticKernel kernel = Check.built(PLAN);
        Check.same("off", kernel.at(0, 1, 0), 10);
        kernel.start(0);
        Check.same("no alarm 2", kernel.at(2, 1, 0), 3);
        Check.same("no alarm -1", kernel.at(-1, 1, 0), 3);
        Check.same("due -1", kernel.at(0, -1, 0), 8);
        Check.same("due 10", kernel.at(0, 10, 0), 8);
        Check.same("every 2", kernel.at(0, 1, 2), 8);
        Check.same("every 10", kernel.at(0, 1, 10), 8);
        Check.same("due 9", kernel.at(0, 9, 9), 0);
        Check.same("in use", kernel.at(0, 99, 0), 7);
        Check.same("due 0", kernel.at(1, 0, 3), 0);
        kernel.shut();
        Check.same("shut", kernel.at(9, 1, 0), 9);
        Check.notes("all", kernel, 70000, 10000, 31203, 31203, 31208, 31208, 31208, 31208, 31207, 31209);
    }

    private static void atTheValueOfNow() {
        StaticKernel kernel = Check.started(PLAN);
        kernel.tick(0, 4);
        Check.same("at 4", kernel.at(0, 4, 0), 0);
        Check.same("left", kernel.left(0), 10);
        Check.same("alarm", kernel.alarm(0, 0), 10);
        Check.same("at 3", kernel.at(1, 3, 0), 0);
        Check.same("left", kernel.left(1), 9);
        Check.same("eight", kernel.tick(0, 8), 0);
        Check.same("nine", kernel.tick(0, 1), 1);
        Check.same("ten", kernel.tick(0, 1), 1);
        Check.latest("met", kernel, 40001, 40000);
    }

    private static void cancelAndLeft() {
        StaticKernel kernel = Check.built(PLAN);
        Check.same("off", kernel.cancel(0), 10);
        Check.same("off", kernel.left(0), -10);
        kernel.start(0);
        Check.same("no alarm 2", kernel.cancel(2), 3);
        Check.same("no alarm -1", kernel.cancel(-1), 3);
        Check.same("no alarm 2", kernel.left(2), -3);
        Check.same("no alarm -1", kernel.left(-1), -3);
        Check.same("not in use", kernel.cancel(0), 5);
        Check.same("not in use", kernel.left(0), -5);
        kernel.after(0, 5, 3);
        Check.same("left", kernel.left(0), 5);
        kernel.shut();
        Check.same("shut", kernel.cancel(0), 9);
        Check.same("shut", kernel.left(0), -9);
        kernel.open();
        Check.same("cancel", kernel.cancel(0), 0);
        Check.same("not in use", kernel.alarm(0, 0), NONE);
        Check.same("every", kernel.alarm(0, 1), NONE);
        Check.same("not met", kernel.tick(0, 20), 0);
        Check.same("again", kernel.after(0, 1, 0), 0);
        Check.notes("all", kernel, 70000, 10000, 31303, 31303, 31403, 31403, 31305, 31405, 31309, 31409);
    }

    private static void greatestCounter() {
        StaticKernel kernel = Check.started("mode a counter c max 65535 base 1 least 65535 task t priority 1 auto a"
                + " alarm x on c calls");
        Check.same("after", kernel.after(0, 65535, 65535), 0);
        for (int n = 0; n < 65; n++) {
            kernel.tick(0, 1000);
        }
        Check.same("left", kernel.left(0), 535);
        Check.same("met", kernel.tick(0, 535), 1);
        Check.same("value", kernel.counter(0, 0), 65535);
        Check.same("next", kernel.left(0), 65535);
        Check.same("one more", kernel.tick(0, 1), 0);
        Check.same("value", kernel.counter(0, 0), 0);
        kernel.cancel(0);
        Check.same("at", kernel.at(0, 0, 0), 0);
        Check.same("left", kernel.left(0), 65536);
        StaticKernel least = Check.started("mode a counter c max 1 base 1 least 1 task t priority 1 auto a alarm x on c calls");
        Check.same("every 1", least.after(0, 1, 1), 0);
        Check.same("each step", least.tick(0, 1000), 1000);
        Check.same("value", least.counter(0, 0), 0);
        Check.same("notes", least.count(6), 1002);
        Check.same("the oldest kept", least.note(499), 40000);
        Check.missing("not kept", () -> least.note(500));
    }

    private static void stepsOfABase() {
        StaticKernel kernel = Check.started("mode a counter c max 2 base 4 least 1 task t priority 1 auto a alarm x on c calls");
        kernel.after(0, 1, 1);
        int[] due = {0, 0, 0, 1, 0, 0, 0, 1, 0, 0, 0, 1, 0};
        for (int i = 0; i < due.length; i++) {
            Check.same("tick " + i, kernel.tick(0, 1), due[i]);
            Check.same("ticks " + i, kernel.counter(0, 1), (i + 1) % 4);
            Check.same("value " + i, kernel.counter(0, 0), (i + 1) / 4 % 3);
        }
        StaticKernel slow = Check.started("mode a counter c max 2 base 1000 least 1 task t priority 1 auto a");
        slow.tick(0, 999);
        Check.same("value", slow.counter(0, 0), 0);
        Check.same("ticks", slow.counter(0, 1), 999);
        slow.tick(0, 1);
        Check.same("value", slow.counter(0, 0), 1);
        Check.same("ticks", slow.counter(0, 1), 0);
    }

    private static void everyAndOnce() {
        StaticKernel kernel = Check.started(PLAN);
        kernel.after(0, 2, 4);
        kernel.after(1, 2, 0);
        Check.same("both", kernel.tick(0, 2), 2);
        Check.same("next", kernel.alarm(0, 0), 4);
        Check.same("every", kernel.alarm(0, 1), 4);
        Check.same("no more", kernel.alarm(1, 0), NONE);
        Check.same("twice in eight", kernel.tick(0, 8), 2);
        Check.same("round", kernel.counter(0, 0), 0);
        Check.same("next", kernel.alarm(0, 0), 4);
        Check.notes("all", kernel, 70000, 10000, 40000, 40001, 40000, 40000);
    }

    private static void alarmsThatStart() {
        StaticKernel kernel = Check.started("mode a counter c max 9 base 1 least 1 task t priority 1 auto a task u priority 5 limit 2"
                + " task v priority 0 alarm x on c starts u alarm y on c starts v auto a in 1 every 1");
        kernel.after(0, 2, 1);
        Check.same("three ticks", kernel.tick(0, 3), 5);
        Check.same("u", kernel.running(), 1);
        Check.same("requests", kernel.task(1, 1), 2);
        Check.same("v's", kernel.task(2, 1), 1);
        Check.notes("all", kernel, 70000, 10000, 40001, 40000, 40001, 32004, 20000, 10001, 40000, 40001, 32004);
        Check.same("a limit is met", kernel.tick(0, 1), 2);
        Check.latest("noted", kernel, 40000, 32004, 40001, 32004);
    }

    private static void alarmsThatSet() {
        StaticKernel kernel = Check.started("mode a event e event f task t priority 1 auto a task u priority 5 waits f,e"
                + " counter c max 9 base 1 least 1 alarm x on c sets u f auto a in 1 every 1");
        Check.same("suspended", kernel.tick(0, 1), 1);
        kernel.activate(1);
        kernel.await(3);
        Check.same("waits", kernel.task(1, 0), 3);
        Check.same("met", kernel.tick(0, 1), 1);
        Check.same("u runs", kernel.running(), 1);
        Check.same("f is set", kernel.bits(1, 1), 2);
        Check.same("met while it runs", kernel.tick(0, 1), 1);
        kernel.clear(2);
        kernel.await(1);
        Check.same("met while it waits for e", kernel.tick(0, 1), 1);
        Check.same("it waits on", kernel.task(1, 0), 3);
        Check.same("f is set", kernel.bits(1, 1), 2);
        Check.notes("all", kernel, 70000, 10000, 40000, 32007, 20000, 10001, 20001, 10000, 40000, 20000, 10001, 40000,
                20001, 10000, 40000);
    }

    private static void alarmsInTheirOrder() {
        StaticKernel kernel = Check.started("mode a counter c max 9 base 1 least 1 counter d max 9 base 1 least 1"
                + " task t priority 1 auto a task u priority 2 task v priority 2"
                + " alarm w on d calls auto a in 1 alarm x on c starts v auto a in 1 alarm y on c starts u auto a in 1");
        Check.same("of c alone", kernel.tick(0, 1), 2);
        Check.same("v first", kernel.running(), 2);
        Check.same("then u", kernel.row(2, 0), 1);
        Check.same("of d", kernel.tick(1, 1), 1);
        Check.notes("all", kernel, 70000, 10000, 40001, 40002, 20000, 10002, 40000);
    }

    private static void tickStatuses() {
        StaticKernel kernel = Check.built(PLAN);
        Check.same("off", kernel.tick(0, 1), NONE);
        kernel.start(0);
        Check.same("no counter 1", kernel.tick(1, 1), NONE);
        Check.same("no counter -1", kernel.tick(-1, 1), NONE);
        Check.same("n 0", kernel.tick(0, 0), NONE);
        Check.same("n -1", kernel.tick(0, -1), NONE);
        Check.same("n 1001", kernel.tick(0, 1001), NONE);
        Check.same("nothing was done", kernel.counter(0, 0), 0);
        Check.same("n 1000", kernel.tick(0, 1000), 0);
        kernel.shut();
        Check.same("n 1001 while shut", kernel.tick(0, 1001), NONE);
        Check.same("none waits", kernel.counter(0, 2), 0);
    }

    private static void tickWhileIdle() {
        StaticKernel kernel = Check.started("mode a counter c max 9 base 1 least 1 task t priority 1 alarm x on c starts t auto a in 2");
        Check.same("idle", kernel.atWork(), NONE);
        Check.same("one", kernel.tick(0, 1), 0);
        Check.same("idle", kernel.atWork(), NONE);
        Check.same("two", kernel.tick(0, 1), 1);
        Check.same("t", kernel.atWork(), 0);
    }

    private static void tickByTickIsSettled() {
        StaticKernel kernel = Check.started("mode a counter c max 9 base 1 least 1 task low priority 1 task high priority 2"
                + " alarm x on c starts low auto a in 1 alarm y on c starts high auto a in 2");
        Check.same("two at once", kernel.tick(0, 2), 2);
        Check.notes("low ran between them", kernel, 70000, 40000, 10000, 40001, 20000, 10001);
        StaticKernel same = Check.started("mode a counter c max 9 base 1 least 1 task low priority 1 task high priority 2"
                + " alarm x on c starts low auto a in 1 alarm y on c starts high auto a in 1");
        Check.same("one", same.tick(0, 1), 2);
        Check.notes("low did not", same, 70000, 40000, 40001, 10001);
    }

    private static void counterAnswers() {
        StaticKernel kernel = Check.started("mode a counter c max 7 base 2 least 3 counter d max 8 base 1 least 4 task t priority 1 auto a");
        kernel.tick(0, 5);
        kernel.tick(1, 3);
        kernel.shut();
        kernel.tick(1, 12);
        int[] c = {2, 1, 0, 7, 2, 3};
        int[] d = {3, 0, 12, 8, 1, 4};
        for (int what = 0; what < 6; what++) {
            Check.same("c " + what, kernel.counter(0, what), c[what]);
            Check.same("d " + what, kernel.counter(1, what), d[what]);
        }
        Check.same("what 6", kernel.counter(0, 6), NONE);
        Check.same("what -1", kernel.counter(0, -1), NONE);
        Check.missing("counter 2", () -> kernel.counter(2, 0));
        Check.missing("counter -1", () -> kernel.counter(-1, 0));
        Check.missing("counter 2, what 9", () -> kernel.counter(2, 9));
    }

    private static void alarmAnswers() {
        StaticKernel kernel = Check.started("mode a event e event f counter b max 5 base 1 least 1 counter c max 7 base 2 least 3"
                + " task t priority 1 auto a task u priority 1 waits f"
                + " alarm x on c sets u f auto a in 7 every 4 alarm y on b starts t alarm z on c calls auto a in 1");
        int[][] due = {{7, 4, 1, 1, 1}, {NONE, NONE, 0, 0, NONE}, {1, 0, 1, NONE, NONE}};
        for (int a = 0; a < 3; a++) {
            for (int what = 0; what < 5; what++) {
                Check.same("alarm " + a + ", " + what, kernel.alarm(a, what), due[a][what]);
            }
            Check.same("what 5", kernel.alarm(a, 5), NONE);
            Check.same("what -1", kernel.alarm(a, -1), NONE);
        }
        Check.missing("alarm 3", () -> kernel.alarm(3, 0));
        Check.missing("alarm -1", () -> kernel.alarm(-1, 0));
        kernel.halt(0);
        Check.same("off: not in use", kernel.alarm(0, 0), NONE);
        Check.same("off: every", kernel.alarm(0, 1), NONE);
        Check.same("off: counter", kernel.alarm(0, 2), 1);
    }
}
