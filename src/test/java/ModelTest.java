import java.util.ArrayList;
import java.util.List;

/** Runs of calls by the dice, the same at each run, on StaticKernel and on the Model: all that can be seen is compared. */
final class ModelTest {
    private static final int RUNS = 1500;
    private static final int CALLS = 120;

    private static final Dice DICE = new Dice(20261116L);
    private static Model model;
    private static StaticKernel kernel;
    private static final List<String> said = new ArrayList<>();
    private static boolean same;

    public static void main(String[] args) {
        int wrong = 0;
        for (int run = 0; run < RUNS && wrong < 3; run++) {
            if (!oneRun()) {
                wrong++;
                System.out.println("run " + run + ":");
                for (String one : said) {
                    System.out.println("  " + one);
                }
            }
        }
        Check.same("runs that differ", wrong, 0);
        Check.end("ModelTest");
    }

    private static void compare(String what, long got, long due) {
        if (got != due) {
            same = false;
            said.add(what + " answered " + got + ", due is " + due);
        }
    }

    private static boolean oneRun() {
        said.clear();
        same = true;
        model = new Model();
        kernel = new StaticKernel();
        if (DICE.chance(50)) {
            useAnotherPlan();
        }
        String plan = tellPlan();
        said.add(plan);
        compare("build", kernel.build(Check.feed(kernel, plan)), 0);
        for (int n = 0; n < CALLS && same; n++) {
            oneCall();
            compareAll();
        }
        return same;
    }

    /** Nothing may stay of a PLAN ahead of the one that counts. */
    private static void useAnotherPlan() {
        kernel.build(Check.feed(kernel, tellPlan()));
        for (int n = 0; n < 30; n++) {
            oneCall();
        }
        said.clear();
        same = true;
        for (int i = 0; i < 4 && kernel.count(1) == 1; i++) {
            kernel.call(i);
            kernel.halt(0);
        }
        if (kernel.count(1) == 1) {
            kernel = new StaticKernel();
        }
        model = new Model();
    }

    // ---- a PLAN by the dice, told to the Model too

    private static String tellPlan() {
        model.modes = 1 + DICE.roll(3);
        int events = DICE.roll(5);
        int resources = DICE.roll(6);
        int counters = DICE.roll(3);
        int tasks = 1 + DICE.roll(6);
        int isrs = DICE.roll(4);
        int priorities = DICE.chance(50) ? 4 : 64;
        List<List<String>> items = new ArrayList<>();
        for (int sort = 0; sort < 7; sort++) {
            items.add(new ArrayList<>());
        }
        for (int i = 0; i < model.modes; i++) {
            items.get(0).add("mode m" + i);
        }
        for (int i = 0; i < events; i++) {
            items.get(1).add("event e" + i);
        }
        model.resources.add(new Model.Resource());
        for (int i = 1; i <= resources; i++) {
            model.resources.add(new Model.Resource());
            model.resources.get(i).internal = DICE.chance(30);
        }
        for (int i = 1; i <= resources; i++) {
            items.get(2).add(tellResource(i));
        }
        for (int i = 0; i < counters; i++) {
            items.get(3).add(tellCounter(i));
        }
        for (int i = 0; i < tasks; i++) {
            items.get(4).add(tellTask(i, events, priorities));
        }
        for (int i = 0; i < isrs; i++) {
            items.get(5).add(tellIsr(i));
        }
        for (int i = 0; i < (counters == 0 ? 0 : DICE.roll(5)); i++) {
            items.get(6).add(tellAlarm(i));
        }
        model.complete();
        return merged(items);
    }

    /** The SORTS are mixed, each in its order. */
    private static String merged(List<List<String>> items) {
        StringBuilder text = new StringBuilder();
        int left = 0;
        for (List<String> sort : items) {
            left += sort.size();
        }
        while (left > 0) {
            List<String> sort = items.get(DICE.roll(items.size()));
            if (!sort.isEmpty()) {
                text.append(sort.remove(0)).append(DICE.chance(10) ? "# note\n" : " ");
                left--;
            }
        }
        return text.toString();
    }

    private static String tellResource(int i) {
        Model.Resource resource = model.resources.get(i);
        if (resource.internal) {
            return "resource r" + i + " internal";
        }
        // by as from an odd one to an even one, or from a greater one to a less one of like oddness
        for (int other = 1; other < model.resources.size(); other++) {
            boolean goesOn = i % 2 == other % 2 ? other < i : i % 2 == 1;
            if (goesOn && !model.resources.get(other).internal && DICE.chance(25)) {
                resource.as = other;
                return "resource r" + i + " as r" + other;
            }
        }
        return "resource r" + i;
    }

    private static String tellCounter(int i) {
        Model.Counter counter = new Model.Counter();
        counter.max = 1 + DICE.roll(9);
        counter.base = 1 + DICE.roll(3);
        counter.least = 1 + DICE.roll(Math.min(3, counter.max));
        model.counters.add(counter);
        return "counter c" + i + " max " + counter.max + " base " + counter.base + " least " + counter.least;
    }

    private static String tellTask(int i, int events, int priorities) {
        Model.Task task = new Model.Task();
        model.tasks.add(task);
        task.priority = DICE.roll(priorities);
        List<String> parts = new ArrayList<>();
        if (DICE.chance(20)) {
            task.whole = true;
            parts.add("whole");
        }
        StringBuilder waits = new StringBuilder();
        for (int e = 0; e < events; e++) {
            if (DICE.chance(30)) {
                task.events |= 1 << e;
                waits.append(waits.length() == 0 ? "waits e" : ", e").append(e);
            }
        }
        parts.add(waits.toString());
        if (task.events == 0 && DICE.chance(50)) {
            task.limit = 1 + DICE.roll(4);
            parts.add("limit " + task.limit);
        }
        task.modes = DICE.roll(1 << model.modes);
        parts.add(listed("auto m", task.modes));
        parts.add(listed("uses r", usesByTheDice(task.uses, true)));
        StringBuilder text = new StringBuilder("task t" + i + " priority " + task.priority);
        while (!parts.isEmpty()) {
            text.append(' ').append(parts.remove(DICE.roll(parts.size())));
        }
        return text.toString();
    }

    private static int usesByTheDice(List<Integer> uses, boolean internalToo) {
        int bits = 0;
        boolean hasInternal = !internalToo;
        for (int r = 1; r < model.resources.size(); r++) {
            boolean internal = model.resources.get(r).internal;
            if (DICE.chance(40) && !(internal && hasInternal)) {
                hasInternal |= internal;
                uses.add(r);
                bits |= 1 << r;
            }
        }
        return bits;
    }

    /** "uses r" and 6 is "uses r1,r2". */
    private static String listed(String first, int bits) {
        StringBuilder text = new StringBuilder();
        for (int i = 0; i < 32; i++) {
            if ((bits >>> i & 1) == 1) {
                text.append(text.length() == 0 ? first : "," + first.charAt(first.length() - 1)).append(i);
            }
        }
        return text.toString();
    }

    private static String tellIsr(int i) {
        Model.Isr isr = new Model.Isr();
        model.isrs.add(isr);
        int level = 1 + DICE.roll(3);
        isr.priority = 63 + level;
        return "isr i" + i + " level " + level + " " + listed("uses r", usesByTheDice(isr.uses, false));
    }

    private static String tellAlarm(int i) {
        Model.Alarm alarm = new Model.Alarm();
        model.alarms.add(alarm);
        alarm.counter = DICE.roll(model.counters.size());
        StringBuilder text = new StringBuilder("alarm a" + i + " on c" + alarm.counter);
        int t = DICE.roll(model.tasks.size());
        int events = model.tasks.get(t).events;
        if (events != 0 && DICE.chance(70)) {
            alarm.task = t;
            do {
                alarm.event = DICE.roll(5);
            } while ((events >> alarm.event & 1) == 0);
            text.append(" sets t").append(t).append(" e").append(alarm.event);
        } else if (DICE.chance(80)) {
            alarm.task = t;
            text.append(" starts t").append(t);
        } else {
            text.append(" calls");
        }
        if (DICE.chance(60)) {
            tellAuto(alarm, text);
        }
        return text.toString();
    }

    private static void tellAuto(Model.Alarm alarm, StringBuilder text) {
        Model.Counter counter = model.counters.get(alarm.counter);
        alarm.modes = 1 + DICE.roll((1 << model.modes) - 1);
        alarm.in = 1 + DICE.roll(counter.max);
        text.append(' ').append(listed("auto m", alarm.modes)).append(" in ").append(alarm.in);
        if (DICE.chance(70)) {
            alarm.autoEvery = DICE.chance(20) ? 0 : counter.least + DICE.roll(counter.max - counter.least + 1);
            text.append(" every ").append(alarm.autoEvery);
        }
    }

    // ---- a call by the dice

    /** Mostly the number of a thing, sometimes one just beside. */
    private static int pick(int many) {
        return DICE.chance(94) && many > 0 ? DICE.roll(many) : DICE.roll(many + 2) - 1;
    }

    private static void answered(String call, long got, long due) {
        said.add(call + " = " + due);
        compare(call, got, due);
    }

    private static void oneCall() {
        if (!model.on) {
            int mode = pick(model.modes);
            answered("start(" + mode + ")", kernel.start(mode), model.start(mode));
            return;
        }
        int which = DICE.roll(100);
        if (which < 14) {
            int c = pick(model.counters.size());
            int n = DICE.chance(85) ? 1 + DICE.roll(4) : DICE.chance(50) ? DICE.roll(1003) : DICE.roll(30);
            answered("tick(" + c + ", " + n + ")", kernel.tick(c, n), model.tick(c, n));
        } else if (which < 22) {
            int i = pick(model.isrs.size());
            answered("call(" + i + ")", kernel.call(i), model.call(i));
        } else if (which < 23) {
            int mode = pick(model.modes);
            answered("start(" + mode + ")", kernel.start(mode), model.start(mode));
        } else {
            oneService();
        }
    }

    private static void oneService() {
        int[] often = {1, 1, 1, 1, 2, 2, 3, 3, 4, 4, 5, 5, 5, 6, 6, 6, 7, 7, 7, 8, 9, 9, 10, 11, 11, 12, 12, 13, 14, 15, 16,
            16, 16, 17, 17, 17};
        int number = DICE.chance(1) ? 18 : often[DICE.roll(often.length)];
        int x = 0;
        int y = 0;
        int z = 0;
        if (number == 1 || number == 3 || number == 7 || number == 10) {
            x = pick(model.tasks.size());
            y = DICE.chance(80) ? DICE.roll(32) : DICE.bits();
        } else if (number == 5) {
            x = pick(model.resources.size());
        } else if (number == 6) {
            x = lastTakenOrAny();
        } else if (number == 8 || number == 9 || number == 18) {
            x = DICE.chance(80) ? DICE.roll(32) : DICE.bits();
        } else if (number >= 11 && number <= 14) {
            x = pick(model.alarms.size());
            y = DICE.roll(12) - 1;
            z = DICE.chance(40) ? 0 : DICE.roll(12) - 1;
        }
        long due = model.service(number, x, y, z);
        answered("service " + number + "(" + x + ", " + y + ", " + z + ")", Services.serve(kernel, number, x, y, z), due);
    }

    private static int lastTakenOrAny() {
        List<Integer> taken = List.of();
        if (!model.begun.isEmpty()) {
            taken = model.isrs.get(model.begun.get(model.begun.size() - 1)).taken;
        } else if (model.running != null) {
            taken = model.running.taken;
        }
        return taken.isEmpty() || DICE.chance(15) ? pick(model.resources.size()) : taken.get(taken.size() - 1);
    }

    // ---- all that can be seen

    private static void compareAll() {
        compare("atWork()", kernel.atWork(), model.atWork());
        compare("running()", kernel.running(), model.running());
        compareTasks();
        compareRest();
        for (int p = 0; p < 64; p++) {
            List<Model.Request> row = model.rows.get(p);
            for (int i = 0; i <= row.size(); i++) {
                compare("row(" + p + ", " + i + ")", kernel.row(p, i), i < row.size() ? row.get(i).task : -1);
            }
        }
        int[] due = {0, model.on ? 1 : 0, model.mode, model.shut, model.begun.size(), model.allRequests(),
            model.notes.size(), 0, 0};
        for (int what = 0; what < due.length; what++) {
            compare("count(" + what + ")", kernel.count(what), due[what]);
        }
        for (int k = 0; k < Math.min(model.notes.size(), 500); k++) {
            compare("note(" + k + ")", kernel.note(k), model.notes.get(model.notes.size() - 1 - k));
        }
    }

    private static void compareTasks() {
        for (int t = 0; t < model.tasks.size(); t++) {
            Model.Task task = model.tasks.get(t);
            for (int what = 0; what < 7; what++) {
                compare("task(" + t + ", " + what + ")", kernel.task(t, what), model.task(t, what));
            }
            compare("bits(" + t + ", 0)", kernel.bits(t, 0), task.events);
            compare("bits(" + t + ", 1)", kernel.bits(t, 1), task.set);
            compare("bits(" + t + ", 2)", kernel.bits(t, 2), task.waitsFor);
        }
        for (int i = 0; i < model.isrs.size(); i++) {
            Model.Isr isr = model.isrs.get(i);
            compare("isr(" + i + ", 0)", kernel.isr(i, 0), model.currentPriority(isr));
            compare("isr(" + i + ", 1)", kernel.isr(i, 1), model.begun.indexOf(i));
            compare("isr(" + i + ", 2)", kernel.isr(i, 2), isr.called ? 1 : 0);
        }
    }

    private static void compareRest() {
        for (int r = 0; r < model.resources.size(); r++) {
            Model.Resource resource = model.resources.get(r);
            int[] due = {resource.ceiling, model.holder(r), resource.least, resource.internal ? 1 : 0};
            for (int what = 0; what < due.length; what++) {
                compare("resource(" + r + ", " + what + ")", kernel.resource(r, what), due[what]);
            }
        }
        for (int c = 0; c < model.counters.size(); c++) {
            Model.Counter counter = model.counters.get(c);
            int[] due = {counter.value, counter.ticks, counter.waiting, counter.max, counter.base, counter.least};
            for (int what = 0; what < due.length; what++) {
                compare("counter(" + c + ", " + what + ")", kernel.counter(c, what), due[what]);
            }
        }
        for (int a = 0; a < model.alarms.size(); a++) {
            Model.Alarm alarm = model.alarms.get(a);
            int[] due = {alarm.used ? model.steps(a) : -1, alarm.used ? alarm.every : -1, alarm.counter, alarm.task,
                alarm.event};
            for (int what = 0; what < due.length; what++) {
                compare("alarm(" + a + ", " + what + ")", kernel.alarm(a, what), due[what]);
            }
        }
    }
}
