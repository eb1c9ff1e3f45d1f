/** The alarms of section 4, and promises 18 to 21. */
final class EdgesOfAlarms {
    private static final int NONE = StaticKernel.NONE;
    private static final int MOST = Integer.MAX_VALUE;
    private static final int LEAST = Integer.MIN_VALUE;
    private static final String PLAN = "mode a counter b max 65535 base 1 least 65535 counter c max 9 base 1 least 3"
            + " task t priority 1 auto a"
            + " alarm w on b calls alarm x on c calls alarm y on c calls ";

    private EdgesOfAlarms() {
    }

    static void all() {
        after();
        afterGoesRound();
        at();
        cancel();
        left();
    }

    private static void after() {
        Edge.of("section 4", "after(a, in, every) (11): 3 no such alarm; 7 it is in use", () -> {
            StaticKernel kernel = Check.started(PLAN);
            Edge.each("after", 3, a -> kernel.after(a, 1, 0), Edge.NO_NUMBERS);
            Check.same("just beyond", kernel.after(3, 1, 0), 3);
            Check.same("the last", kernel.after(2, 1, 0), 0);
            Check.same("in use", kernel.after(2, 2, 0), 7);
            kernel.tick(1, 1);
            Check.same("no more in use", kernel.after(2, 1, 0), 0);
            kernel.cancel(2);
            Check.same("no more in use", kernel.after(2, 1, 0), 0);
        });
        Edge.of("section 4", "8 in is not 1 .. max of its counter", () -> {
            StaticKernel kernel = Check.started(PLAN);
            Edge.each("in", 8, in -> kernel.after(1, in, 0), 0, 10, -1, LEAST, MOST);
            Check.same("not in use", kernel.alarm(1, 0), NONE);
            Check.same("1", kernel.after(1, 1, 0), 0);
            Check.same("9", kernel.after(2, 9, 0), 0);
            Check.same("in 9", kernel.left(2), 9);
            Check.same("65536", kernel.after(0, 65536, 0), 8);
            Check.same("65535", kernel.after(0, 65535, 0), 0);
        });
        Edge.of("section 4", "or every neither 0 nor least .. max. It is in use", () -> {
            StaticKernel kernel = Check.started(PLAN);
            Edge.each("every", 8, every -> kernel.after(1, 1, every), 1, 2, 10, -1, LEAST, MOST);
            Check.same("not in use", kernel.alarm(1, 0), NONE);
            for (int every : new int[] {0, 3, 9}) {
                Check.same("every " + every, kernel.after(1, 1, every), 0);
                Check.same("in use", kernel.alarm(1, 1), every);
                kernel.cancel(1);
            }
            Check.same("65534", kernel.after(0, 1, 65534), 8);
            Check.same("65535", kernel.after(0, 1, 65535), 0);
            Check.same("both wrong", kernel.after(1, 0, 1), 8);
        });
    }

    private static void afterGoesRound() {
        Edge.of("section 4", "DUE is so many behind VALUE (behind max comes 0)", () -> {
            for (int value = 0; value <= 9; value++) {
                for (int in = 1; in <= 9; in++) {
                    StaticKernel kernel = Check.started(PLAN);
                    if (value > 0) {
                        kernel.tick(1, value);
                    }
                    kernel.after(1, in, 0);
                    String what = in + " behind " + value;
                    Check.same(what, kernel.left(1), in);
                    Check.same(what + ", one ahead", in == 1 ? 0 : kernel.tick(1, in - 1), 0);
                    Check.same(what + ", met", kernel.tick(1, 1), 1);
                    Check.same(what + ", VALUE", kernel.counter(1, 0), (value + in) % 10);
                }
            }
        });
        Edge.of("promise 18", "Service 11.", () -> {
            StaticKernel kernel = Check.started(PLAN);
            Check.same("done", kernel.after(1, 9, 9), 0);
            Check.same("refused", kernel.after(1, 9, 9), 7);
            Check.same("refused", kernel.after(2, 10, 9), 8);
            Check.notes("all", kernel, 70000, 10000, 31107, 31108);
        });
    }

    private static void at() {
        Edge.of("section 4", "at(a, due, every) (12): 3; 7", () -> {
            StaticKernel kernel = Check.started(PLAN);
            Edge.each("at", 3, a -> kernel.at(a, 1, 0), Edge.NO_NUMBERS);
            Check.same("just beyond", kernel.at(3, 1, 0), 3);
            Check.same("the last", kernel.at(2, 1, 0), 0);
            Check.same("in use", kernel.at(2, 2, 0), 7);
        });
        Edge.of("section 4", "8 due is not 0 .. max, or every as above. It is in use, with that DUE", () -> {
            StaticKernel kernel = Check.started(PLAN);
            kernel.tick(1, 4);
            Edge.each("due", 8, due -> kernel.at(1, due, 0), -1, 10, LEAST, MOST);
            Edge.each("every", 8, every -> kernel.at(1, 0, every), 1, 2, 10, -1, LEAST, MOST);
            Check.same("not in use", kernel.alarm(1, 0), NONE);
            Check.same("0", kernel.at(1, 0, 3), 0);
            Check.same("in 6", kernel.left(1), 6);
            Check.same("every", kernel.alarm(1, 1), 3);
            Check.same("9", kernel.at(2, 9, 9), 0);
            Check.same("in 5", kernel.left(2), 5);
            Check.same("every", kernel.alarm(2, 1), 9);
            Check.same("65536", kernel.at(0, 65536, 0), 8);
            Check.same("65535", kernel.at(0, 65535, 0), 0);
        });
        Edge.of("section 4", "(if that is VALUE now, it is met when VALUE comes to it again)", () -> {
            StaticKernel kernel = Check.started(PLAN);
            kernel.tick(1, 4);
            Check.same("VALUE", kernel.at(1, 4, 0), 0);
            Check.same("one behind it", kernel.at(2, 5, 0), 0);
            Check.same("a whole round", kernel.left(1), 10);
            Check.same("one step", kernel.left(2), 1);
            Check.same("y", kernel.tick(1, 1), 1);
            Check.same("none", kernel.tick(1, 8), 0);
            Check.same("x", kernel.tick(1, 1), 1);
            Check.same("VALUE", kernel.counter(1, 0), 4);
        });
        Edge.of("promise 19", "Service 12.", () -> {
            StaticKernel kernel = Check.started(PLAN);
            Check.same("done", kernel.at(1, 0, 9), 0);
            Check.same("refused", kernel.at(1, 0, 9), 7);
            Check.same("refused", kernel.at(2, 10, 9), 8);
            Check.notes("all", kernel, 70000, 10000, 31207, 31208);
        });
    }

    private static void cancel() {
        Edge.of("section 4", "cancel(a) (13): 3; 5 it is not in use. It is in use no more.", () -> {
            StaticKernel kernel = Check.started(PLAN);
            Edge.each("cancel", 3, kernel::cancel, Edge.NO_NUMBERS);
            Check.same("just beyond", kernel.cancel(3), 3);
            Check.same("never in use", kernel.cancel(2), 5);
            kernel.after(2, 1, 3);
            Check.same("in use", kernel.cancel(2), 0);
            Check.same("no more", kernel.alarm(2, 0), NONE);
            Check.same("no more", kernel.cancel(2), 5);
            Check.same("it is not met", kernel.tick(1, 20), 0);
            kernel.after(2, 1, 0);
            kernel.tick(1, 1);
            Check.same("once, and met", kernel.cancel(2), 5);
            kernel.after(2, 1, 3);
            kernel.tick(1, 1);
            Check.same("every, and met", kernel.cancel(2), 0);
        });
        Edge.of("promise 20", "Service 13.", () -> {
            StaticKernel kernel = Check.started(PLAN);
            kernel.after(1, 1, 0);
            Check.same("done", kernel.cancel(1), 0);
            Check.same("refused", kernel.cancel(1), 5);
            Check.notes("all", kernel, 70000, 10000, 31305);
        });
    }

    private static void left() {
        Edge.of("section 4", "left(a) (14): 3; 5: else in how many steps of VALUE it is met (1 .. max + 1).", () -> {
            StaticKernel kernel = Check.started(PLAN);
            Edge.each("left", -3, kernel::left, Edge.NO_NUMBERS);
            Check.same("just beyond", kernel.left(3), -3);
            Check.same("not in use", kernel.left(2), -5);
            kernel.at(1, 1, 0);
            Check.same("the least", kernel.left(1), 1);
            kernel.at(2, 0, 0);
            Check.same("max + 1", kernel.left(2), 10);
            kernel.at(0, 0, 0);
            Check.same("the greatest", kernel.left(0), 65536);
            kernel.tick(1, 1);
            Check.same("a step less", kernel.left(2), 9);
            Check.same("met", kernel.left(1), -5);
            kernel.tick(1, 8);
            Check.same("the last step", kernel.left(2), 1);
        });
        Edge.of("section 4", "in how many steps of VALUE it is met", () -> {
            StaticKernel kernel = Check.started("mode a counter c max 9 base 4 least 1 task t priority 1 auto a alarm"
                    + " x on c calls");
            kernel.after(0, 2, 0);
            kernel.tick(0, 3);
            Check.same("no step yet", kernel.left(0), 2);
            kernel.tick(0, 1);
            Check.same("a step", kernel.left(0), 1);
        });
        Edge.of("promise 21", "Service 14.", () -> {
            StaticKernel kernel = Check.started(PLAN);
            kernel.after(1, 9, 0);
            Check.same("done", kernel.left(1), 9);
            Check.same("refused", kernel.left(2), -5);
            Check.notes("all", kernel, 70000, 10000, 31405);
        });
    }
}
