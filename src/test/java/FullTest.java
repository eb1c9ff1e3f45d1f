/** A PLAN with as many things of every SORT as there may be, and all of them in use. */
final class FullTest {
    private static final int NONE = StaticKernel.NONE;
    private static final int[] MANY = {8, 32, 32, 16, 48, 16, 48};

    public static void main(String[] args) {
        String plan = plan();
        StaticKernel kernel = Check.started(plan);
        for (int sort = 0; sort < MANY.length; sort++) {
            int last = MANY[sort] - 1;
            Check.same("many " + sort, kernel.many(sort), MANY[sort]);
            Check.yes("the last has a name", kernel.name(sort, last, 0) != 0);
            int which = sort;
            Check.missing("none behind it", () -> kernel.name(which, last + 1, 0));
        }
        takeAllResources(kernel);
        beginAllIsrs(kernel);
        meetAllAlarms(kernel);
        Check.same("halt", kernel.halt(1), 0);
        Check.same("resource 31 is free", kernel.resource(31, 1), NONE);
        Check.same("the same once more", kernel.build(Check.feed(kernel, plan)), 0);
        Check.same("start", kernel.start(7), 0);
        Check.same("no task of this mode", kernel.atWork(), NONE);
        Check.end("FullTest");
    }

    private static String plan() {
        StringBuilder text = new StringBuilder();
        add(text, "mode ", 'm', 8, "");
        add(text, "event ", 'e', 32, "");
        add(text, "resource ", 'r', 31, "");
        add(text, "counter ", 'c', 16, " max 1 base 1 least 1");
        text.append("task t priority 1 limit 8\n");
        add(text, "task ", 't', 46, " priority 1");
        text.append("task last priority 0 auto ma waits ").append(list('e', 32)).append(" uses ").append(list('r', 31)).append('\n');
        add(text, "isr ", 'k', 15, " level 1");
        text.append("isr top level 2 uses r_e\n");
        add(text, "alarm ", 'w', 47, " on cp starts t");
        text.append("alarm last2 on cp sets last e_f auto ma in 1\n");
        return text.toString();
    }

    /** ta to tz, then t_a to t_z: a name for each of 52. */
    private static String name(char first, int i) {
        return i < 26 ? "" + first + (char) ('a' + i) : first + "_" + (char) ('a' + i - 26);
    }

    private static void add(StringBuilder text, String word, char first, int many, String end) {
        for (int i = 0; i < many; i++) {
            text.append(word).append(name(first, i)).append(end).append('\n');
        }
    }

    private static String list(char first, int many) {
        StringBuilder text = new StringBuilder(name(first, 0));
        for (int i = 1; i < many; i++) {
            text.append(',').append(name(first, i));
        }
        return text.toString();
    }

    private static void takeAllResources(StaticKernel kernel) {
        Check.same("the last task", kernel.running(), 47);
        for (int r = 31; r >= 0; r--) {
            Check.same("take " + r, kernel.take(r), 0);
        }
        Check.same("has", kernel.task(47, 3), 32);
        Check.same("take one again", kernel.take(31), 1);
        for (int r = 0; r < 32; r++) {
            Check.same("who has it", kernel.resource(r, 1), 47);
            Check.same("give " + r, kernel.give(r), 0);
        }
        Check.same("has", kernel.task(47, 3), 0);
    }

    private static void beginAllIsrs(StaticKernel kernel) {
        kernel.shut();
        for (int i = 0; i < 16; i++) {
            Check.same("call " + i, kernel.call(i), 0);
        }
        kernel.open();
        Check.same("the greatest", kernel.atWork(), 115);
        kernel.leave();
        for (int i = 0; i < 15; i++) {
            Check.same("the first of like ones", kernel.atWork(), 100 + i);
            kernel.leave();
        }
        Check.same("the task", kernel.atWork(), 47);
    }

    private static void meetAllAlarms(StaticKernel kernel) {
        for (int a = 0; a < 47; a++) {
            Check.same("after " + a, kernel.after(a, 1, 1), 0);
        }
        for (int c = 0; c < 15; c++) {
            Check.same("tick " + c, kernel.tick(c, 1), 0);
        }
        Check.same("all at once", kernel.tick(15, 1), 48);
        Check.same("its limit", kernel.task(0, 1), 8);
        Check.same("the last event", kernel.bits(47, 1), 0x80000000L);
        Check.same("the last alarm", kernel.alarm(47, 0), NONE);
        Check.same("the first task", kernel.running(), 0);
    }
}
