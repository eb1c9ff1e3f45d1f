import java.util.ArrayList;
import java.util.List;

/** Texts by the dice, the same at each run: the FAULT of StaticKernel and that of the FaultModel are compared. */
final class FaultModelTest {
    private static final int RUNS = 12000;
    private static final String[] NAMES = {"a", "b", "c", "d", "e", "f", "abcdefghijkl", "x_1"};
    private static final String[] JUNK = {"!", "A", "_", "7x", "abcdefghijklm", "65536", ",", "5", "a", "mode", "in", "\t",
        "every", "task", "00000000000000012", "#x\n", "# ", "\n", "internal", "99999999999", "uses"};

    private static final Dice DICE = new Dice(38L);
    private static final int[] kinds = new int[7];

    public static void main(String[] args) {
        for (int run = 0; run < RUNS; run++) {
            compare(textByTheDice());
        }
        StringBuilder seen = new StringBuilder("FAULTS of kind 0 to 6:");
        for (int kind = 0; kind < 7; kind++) {
            seen.append(' ').append(kinds[kind]);
            Check.yes("kind " + kind + " came", kinds[kind] > RUNS / 200);
        }
        System.out.println(seen);
        Check.end("FaultModelTest");
    }

    private static void compare(String text) {
        FaultModel due = new FaultModel(text);
        StaticKernel kernel = new StaticKernel();
        int length = Check.feed(kernel, text);
        kinds[due.kind]++;
        Check.same("build of " + text, kernel.build(length), due.kind == 0 ? 0 : -1);
        Check.same("kind of " + text, kernel.fault(0), due.kind);
        Check.same("place of " + text, kernel.fault(1), due.place);
    }

    /** Its NAMES are told in a way that the PLAN often holds: each for one SORT, with few slips. */
    private static String textByTheDice() {
        List<String> tokens = new ArrayList<>();
        if (DICE.chance(8)) {
            addMany(tokens);
        }
        int slips = DICE.chance(85) ? 0 : 6;
        List<String> told = new ArrayList<>();
        int items = 1 + DICE.roll(9);
        for (int i = 0; i < items; i++) {
            addItem(tokens, told, DICE.roll(7), slips);
        }
        for (int n = 0; n < 14; n++) {
            if (DICE.chance(97)) {
                addItem(tokens, told, n % 7, slips);
            }
        }
        if (DICE.chance(15)) {
            tokens.add(DICE.roll(tokens.size() + 1), JUNK[DICE.roll(JUNK.length)]);
        }
        if (DICE.chance(6)) {
            tokens.remove(DICE.roll(tokens.size()));
        }
        StringBuilder text = new StringBuilder();
        for (String token : tokens) {
            text.append(token).append(token.equals(",") && DICE.chance(50) ? "" : DICE.chance(5) ? "\n" : " ");
        }
        int length = DICE.chance(6) ? DICE.roll(text.length()) : text.length();
        return text.substring(0, Math.min(length, 3980));
    }

    private static void addMany(List<String> tokens) {
        String[] sorts = {"mode", "event", "resource", "counter", "task", "isr", "alarm"};
        String[] ends = {"", "", "", " max 9 base 1 least 1", " priority 1", " level 1", " on c9 calls"};
        int[] most = {8, 32, 31, 16, 48, 16, 48};
        int sort = DICE.roll(7);
        int many = most[sort] - 1 + DICE.roll(3);
        for (int i = 0; i < many; i++) {
            tokens.add(sorts[sort]);
            tokens.add("z" + i + ends[sort]);
        }
        if (sort == 6) {
            tokens.add("counter c9 max 9 base 1 least 1");
        }
    }

    /** NAMES of a SORT begin with its letter; few there are, so that they meet. */
    private static String nameOf(int sort, int slips) {
        int kept = DICE.chance(slips) ? DICE.roll(7) : sort;
        return "mercsia".charAt(kept) + "x" + DICE.roll(2);
    }

    private static void addItem(List<String> tokens, List<String> told, int sort, int slips) {
        String name = nameOf(sort, slips);
        for (int n = 0; n < 5 && told.contains(name) && !DICE.chance(3); n++) {
            name = n < 4 ? nameOf(sort, slips) : NAMES[DICE.roll(NAMES.length)];
        }
        told.add(name);
        String[] sorts = {"mode", "event", "resource", "counter", "task", "isr", "alarm"};
        tokens.add(sorts[sort]);
        tokens.add(name);
        switch (sort) {
            case 2:
                addResourceEnd(tokens, slips);
                break;
            case 3:
                addNumber(tokens, "max", 5, DICE.chance(3) ? 0 : 3 + DICE.roll(20));
                addNumber(tokens, "base", 3, DICE.chance(90) ? 1 + DICE.roll(1000) : DICE.roll(1200));
                addNumber(tokens, "least", 3, 1 + DICE.roll(3));
                break;
            case 4:
                addTaskEnd(tokens, slips);
                break;
            case 5:
                addNumber(tokens, "level", 3, 1 + DICE.roll(16));
                if (DICE.chance(40)) {
                    addNames(tokens, "uses", 2, slips);
                }
                break;
            case 6:
                addAlarmEnd(tokens, slips);
                break;
            default:
                break;
        }
    }

    private static void addNumber(List<String> tokens, String word, int slips, int number) {
        tokens.add(word);
        tokens.add(String.valueOf(DICE.chance(slips) ? DICE.roll(1100) : number));
    }

    private static void addNames(List<String> tokens, String word, int sort, int slips) {
        tokens.add(word);
        List<String> ahead = new ArrayList<>();
        int many = 1 + DICE.roll(3);
        for (int i = 0; i < many; i++) {
            String name = nameOf(sort, slips);
            if (ahead.contains(name) && !DICE.chance(10)) {
                continue;
            }
            if (!ahead.isEmpty()) {
                tokens.add(",");
            }
            ahead.add(name);
            tokens.add(name);
        }
    }

    private static void addResourceEnd(List<String> tokens, int slips) {
        if (DICE.chance(20)) {
            tokens.add("internal");
        } else if (DICE.chance(35)) {
            tokens.add("as");
            tokens.add(nameOf(2, slips));
        }
    }

    private static void addTaskEnd(List<String> tokens, int slips) {
        addNumber(tokens, "priority", 3, DICE.roll(64));
        int parts = DICE.roll(4);
        List<Integer> had = new ArrayList<>();
        for (int i = 0; i < parts; i++) {
            int part = DICE.roll(5);
            if (had.contains(part) && !DICE.chance(10)) {
                continue;
            }
            had.add(part);
            switch (part) {
                case 0:
                    tokens.add("whole");
                    break;
                case 1:
                    addNumber(tokens, "limit", 3, DICE.chance(60) ? 1 : 1 + DICE.roll(8));
                    break;
                case 2:
                    addNames(tokens, "auto", 0, slips);
                    break;
                case 3:
                    addNames(tokens, "uses", 2, slips);
                    break;
                default:
                    addNames(tokens, "waits", 1, slips);
                    break;
            }
        }
    }

    private static void addAlarmEnd(List<String> tokens, int slips) {
        tokens.add("on");
        tokens.add(nameOf(3, slips));
        int action = DICE.roll(4);
        if (action == 0) {
            tokens.add("starts");
            tokens.add(nameOf(4, slips));
        } else if (action == 1) {
            tokens.add("sets");
            tokens.add(nameOf(4, slips));
            tokens.add(nameOf(1, slips));
        } else {
            tokens.add("calls");
        }
        if (DICE.chance(50)) {
            addNames(tokens, "auto", 0, slips);
            addNumber(tokens, "in", 3, 1 + DICE.roll(4));
            if (DICE.chance(50)) {
                addNumber(tokens, "every", 3, DICE.chance(20) ? 0 : 2 + DICE.roll(6));
            }
        }
    }
}
