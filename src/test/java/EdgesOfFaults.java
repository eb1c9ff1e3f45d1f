/** The FAULTS of section 1: each kind, just at what it forbids and just beside it. */
final class EdgesOfFaults {
    private static final String COUNTER = "counter c max 10 base 1 least 3 ";
    private static final String ALARM = COUNTER + "mode m alarm a on c calls auto m in ";

    private EdgesOfFaults() {
    }

    static void all() {
        places();
        kindOne();
        whichComesFirst();
        twice();
        unknown();
        rangeOfTasksAndIsrs();
        rangeOfCounters();
        rangeOfAlarms();
        rules();
        rulesOfAs();
        full();
    }

    private static void places() {
        Edge.of("section 1", "A FAULT has a kind and a place (of a token its first byte; of the text's end its length).", () -> {
            Check.fault(1, "^!");
            Check.fault(1, "mode a ^mod");
            Check.fault(2, "mode abc mode ^abc");
            Check.fault(4, "task t priority ^064");
            Check.fault(1, "mode^");
            Check.fault(1, "mode \n#x^");
            Check.fault(1, " ".repeat(3996) + "mode^");
            Check.fault(1, " ".repeat(3999) + "^,");
            StaticKernel kernel = new StaticKernel();
            Check.feed(kernel, "mode a mode a");
            kernel.build(12);
            Check.same("the end of the first n bytes", kernel.fault(1), 12);
        });
    }

    private static void kindOne() {
        Edge.of("section 1", "1: the first token with which nothing goes on that is as told, or what is none", () -> {
            String[] tokens = ("mode m event e resource r internal resource s resource q as s counter c max 9 base 2 least 3"
                    + " task t priority 5 whole limit 1 auto m uses r , s waits e isr i level 4 uses s , q"
                    + " alarm a on c starts t auto m in 3 every 4 alarm b on c sets t e alarm d on c calls").split(" ");
            StringBuilder ahead = new StringBuilder();
            for (String token : tokens) {
                Check.fault(1, ahead + "^!" + token);
                Check.fault(1, ahead + "^abcdefghijklm " + token);
                Check.fault(1, ahead + "^65536 " + token);
                ahead.append(token).append(' ');
            }
            Check.fault(0, ahead.toString());
            Check.fault(1, "mode a ^5 !");
            Check.fault(1, "mode a ^! 5");
        });
        Edge.of("section 1", "(also a NAME or a NUMBER too great, at its first byte)", () -> {
            Check.fault(0, "mode abcdefghijkl");
            Check.fault(1, "mode ^abcdefghijklm");
            Check.fault(4, "task t priority ^65535");
            Check.fault(1, "task t priority ^65536");
        });
        Edge.of("section 1", "If there is none, the first along the text", () -> {
            Check.fault(1, "mode a mode a task t priority 64 uses x, x ^!");
            Check.fault(2, "mode a mode ^a task t priority 64 uses x, x");
            Check.fault(4, "task t priority ^64 uses x, x mode a mode a");
            Check.fault(3, "task t priority 63 uses ^x, x mode a mode a");
            Check.fault(6, Check.items(8, "mode", "") + "mode ^a mode a");
            Check.fault(5, "resource r as ^r resource r");
            Check.fault(3, "task t priority 1 uses ^x limit 0");
            Check.fault(4, "task t priority 1 limit ^0 uses x");
        });
    }

    private static void whichComesFirst() {
        Edge.of("section 1", "(at one token the least kind)", () -> {
            Check.fault(2, Check.items(8, "mode", "") + "mode ^aaz");
            Check.fault(6, Check.items(8, "mode", "") + "mode ^aaa");
            Check.fault(2, "resource r internal task t priority 1 uses r, ^r");
            Check.fault(5, "resource r internal resource s internal task t priority 1 uses r, ^s");
            Check.fault(3, COUNTER + "mode m event e task t priority 1 waits e alarm a on c sets t ^m");
            Check.fault(5, COUNTER + "event m event e task t priority 1 waits e alarm a on c sets t ^m");
            Check.fault(4, "event e task t priority 1 waits e limit ^9");
            Check.fault(5, "event e task t priority 1 waits e limit ^8");
        });
    }

    private static void twice() {
        Edge.of("section 1", "2 TWICE: a NAME that an ITEM tells, if one ahead of it told it", () -> {
            String[] items = {"mode a", "event a", "resource a", "counter a max 1 base 1 least 1", "task a priority 1",
                "isr a level 1", "alarm a on k calls"};
            for (String first : items) {
                for (String second : items) {
                    Check.fault(2, "counter k max 1 base 1 least 1 " + first + " " + second.replace(" a", " ^a"));
                }
                Check.fault(0, "counter k max 1 base 1 least 1 " + first + " mode a_ mode aa mode a0");
            }
            Check.fault(2, "mode abcdefghijkl mode ^abcdefghijkl");
            Check.fault(0, "mode abcdefghijkl mode abcdefghijk mode abcdefghijkm mode bbcdefghijkl");
        });
        Edge.of("section 1", "a NAME in NAMES that stands ahead in these NAMES", () -> {
            String modes = Check.items(8, "mode", "") + COUNTER;
            Check.fault(2, modes + "task t priority 1 auto aaz,^aaz");
            Check.fault(2, modes + "task t priority 1 auto aaz,abz,acz,adz,aez,afz,agz,ahz,^aaz");
            Check.fault(2, modes + "alarm a on c calls auto aaz,abz,^aaz in 3");
            Check.fault(2, "event e task t priority 1 waits e,^e");
            Check.fault(2, "resource r task t priority 1 uses r,^r");
            Check.fault(2, "resource r isr i level 1 uses r,^r");
            Check.fault(0, modes + "task t priority 1 auto aaz task u priority 1 auto aaz alarm a on c calls auto aaz in 3");
            Check.fault(0, "resource r task t priority 1 uses r isr i level 1 uses r");
        });
        Edge.of("section 1", "the word of a PART that stands ahead in this task", () -> {
            String tail = " mode m mode n resource r resource s event e event f";
            String[] parts = {"whole", "limit 1", "auto m", "uses r", "waits e"};
            String[] again = {"whole", "limit 1", "auto n", "uses s", "waits f"};
            for (int i = 0; i < parts.length; i++) {
                Check.fault(2, "task t priority 1 " + parts[i] + " ^" + again[i] + tail);
                for (int between = 0; between < parts.length; between++) {
                    if (between != i) {
                        Check.fault(2, "task t priority 1 " + parts[i] + " " + parts[between] + " ^" + again[i] + tail);
                    }
                }
                Check.fault(0, "task t priority 1 " + parts[i] + " task u priority 1 " + again[i] + tail);
            }
        });
    }

    private static void unknown() {
        String[] things = {"aamode", "anevent", "aresource", "acounter", "atask", "anisr", "analarm", "nothing"};
        String all = " mode aamode event anevent resource aresource counter acounter max 9 base 1 least 1"
                + " task atask priority 1 waits anevent isr anisr level 1 alarm analarm on acounter calls";
        String[][] rows = {
            {"3 UNKNOWN: a NAME that means nothing, or a thing of another SORT than wanted: behind as",
                "aresource", "resource r as ^?"},
            {"as, uses a resource", "aresource", "task t priority 1 uses ^?"},
            {"uses a resource", "aresource", "isr i level 1 uses ^?"},
            {"on a counter", "acounter", "alarm a on ^? calls"},
            {"starts, sets a task", "atask", "alarm a on acounter starts ^?"},
            {"sets a task", "atask", "alarm a on acounter sets ^? anevent"},
            {"behind that an event", "anevent", "alarm a on acounter sets atask ^?"},
            {"auto a mode", "aamode", "task t priority 1 auto ^?"},
            {"auto a mode, waits", "aamode", "alarm a on acounter calls auto ^? in 1"},
            {"waits an event", "anevent", "task t priority 1 waits ^?"},
        };
        for (String[] row : rows) {
            Edge.of("section 1", row[0], () -> {
                for (String thing : things) {
                    boolean isWanted = thing.equals(row[1]);
                    String item = row[2].replace("?", thing);
                    Check.fault(isWanted ? 0 : 3, (isWanted ? item.replace("^", "") : item) + all);
                    int shift = all.length() + 1;
                    Check.faultAt(isWanted ? 0 : 3, isWanted ? -1 : shift + item.indexOf('^'), all + " " + item.replace("^", ""));
                }
            });
        }
    }

    private static void rangeOfTasksAndIsrs() {
        Edge.of("section 1", "4 RANGE, at the NUMBER: priority above 63", () -> {
            Check.fault(0, "task t priority 0");
            Check.fault(0, "task t priority 63");
            Check.fault(4, "task t priority ^64");
            Check.fault(4, "task t priority ^65535");
        });
        Edge.of("section 1", "limit not 1 .. 8", () -> {
            Check.fault(4, "task t priority 1 limit ^0");
            Check.fault(0, "task t priority 1 limit 1");
            Check.fault(0, "task t priority 1 limit 8");
            Check.fault(4, "task t priority 1 limit ^9");
        });
        Edge.of("section 1", "level not 1 .. 16", () -> {
            Check.fault(4, "isr i level ^0");
            Check.fault(0, "isr i level 1");
            Check.fault(0, "isr i level 16");
            Check.fault(4, "isr i level ^17");
        });
    }

    private static void rangeOfCounters() {
        Edge.of("section 1", "max 0", () -> {
            Check.fault(4, "counter c max ^0 base 1 least 1");
            Check.fault(0, "counter c max 1 base 1 least 1");
            Check.fault(0, "counter c max 65535 base 1 least 1");
        });
        Edge.of("section 1", "base not 1 .. 1000", () -> {
            Check.fault(4, "counter c max 9 base ^0 least 1");
            Check.fault(0, "counter c max 9 base 1 least 1");
            Check.fault(0, "counter c max 9 base 1000 least 1");
            Check.fault(4, "counter c max 9 base ^1001 least 1");
        });
        Edge.of("section 1", "least not 1 .. max", () -> {
            Check.fault(4, "counter c max 9 base 1 least ^0");
            Check.fault(0, "counter c max 9 base 1 least 1");
            Check.fault(0, "counter c max 9 base 1 least 9");
            Check.fault(4, "counter c max 9 base 1 least ^10");
            Check.fault(4, "counter d max 99 base 1 least 1 counter c max 9 base 1 least ^10");
        });
    }

    private static void rangeOfAlarms() {
        Edge.of("section 1", "in not 1 .. max of the alarm's counter", () -> {
            Check.fault(4, ALARM + "^0");
            Check.fault(0, ALARM + "1");
            Check.fault(0, ALARM + "10");
            Check.fault(4, ALARM + "^11");
            Check.fault(4, "mode m alarm a on d calls auto m in ^11 counter d max 10 base 1 least 1 counter e max 11"
                    + " base 1 least 1");
            Check.fault(0, "mode m alarm a on e calls auto m in 11 counter d max 10 base 1 least 1 counter e max 11"
                    + " base 1 least 1");
        });
        Edge.of("section 1", "every neither 0 nor least .. max of it", () -> {
            Check.fault(0, ALARM + "1 every 0");
            Check.fault(4, ALARM + "1 every ^1");
            Check.fault(4, ALARM + "1 every ^2");
            Check.fault(0, ALARM + "1 every 3");
            Check.fault(0, ALARM + "1 every 10");
            Check.fault(4, ALARM + "1 every ^11");
        });
    }

    private static void rules() {
        Edge.of("section 1", "5 RULE: a limit above 1 in a task with waits (at the NUMBER)", () -> {
            Check.fault(0, "event e task t priority 1 limit 1 waits e");
            Check.fault(0, "event e task t priority 1 limit 2");
            Check.fault(5, "event e task t priority 1 limit ^2 waits e");
            Check.fault(5, "event e task t priority 1 waits e limit ^2");
            Check.fault(0, "event e task t priority 1 limit 2 task u priority 1 waits e task v priority 1 limit 2");
        });
        Edge.of("section 1", "of a task's uses a second internal resource", () -> {
            String head = "resource r internal resource s internal resource q ";
            Check.fault(0, head + "task t priority 1 uses r,q");
            Check.fault(0, head + "task t priority 1 uses q,s");
            Check.fault(5, head + "task t priority 1 uses r,^s");
            Check.fault(5, head + "task t priority 1 uses q,s,^r");
            Check.fault(5, head + "task t priority 1 uses s,q,^r");
            Check.fault(0, head + "task t priority 1 uses r task u priority 1 uses s");
        });
        Edge.of("section 1", "of an isr's an internal one (at its NAME)", () -> {
            String head = "resource r internal resource q ";
            Check.fault(0, head + "isr i level 1 uses q");
            Check.fault(5, head + "isr i level 1 uses ^r");
            Check.fault(5, head + "isr i level 1 uses q,^r");
        });
        Edge.of("section 1", "the event of sets, if the task's waits don't have it (at its NAME)", () -> {
            String head = COUNTER + "event e event f event g task t priority 1 waits e,g task u priority 1 waits f ";
            Check.fault(0, head + "alarm a on c sets t e");
            Check.fault(0, head + "alarm a on c sets t g");
            Check.fault(5, head + "alarm a on c sets t ^f");
            Check.fault(0, head + "alarm a on c sets u f");
            Check.fault(5, head + "alarm a on c sets u ^e");
            Check.fault(5, head + "task v priority 1 alarm a on c sets v ^e");
            Check.fault(5, "alarm a on c sets t ^f " + head);
            Check.fault(0, "alarm a on c sets t g " + head);
        });
    }

    private static void rulesOfAs() {
        Edge.of("section 1", "behind as an internal resource", () -> {
            Check.fault(0, "resource r resource s as r");
            Check.fault(5, "resource r internal resource s as ^r");
            Check.fault(5, "resource s as ^r resource r internal");
            Check.fault(0, "resource r internal resource s resource q as s");
        });
        Edge.of("section 1", "or one from which, going on by as, one comes to no end (at that NAME)", () -> {
            Check.fault(5, "resource r as ^r");
            Check.fault(5, "resource r as ^s resource s as r");
            Check.fault(5, "resource q as ^r resource r as s resource s as r");
            Check.fault(5, "resource s resource q as s resource r as ^r");
            Check.fault(0, "resource q as r resource r as s resource s");
            Check.fault(0, chain(31, ""));
            Check.fault(5, chain(31, " as aaz").replaceFirst("as ", "as ^"));
        });
    }

    /** Each resource as the next one, the last one with an end of its own. */
    private static String chain(int many, String last) {
        StringBuilder text = new StringBuilder();
        for (int i = 0; i < many; i++) {
            text.append("resource ").append(name(i)).append(i < many - 1 ? " as " + name(i + 1) : last).append(' ');
        }
        return text.toString();
    }

    private static String name(int i) {
        return "" + (char) ('a' + i / 26) + (char) ('a' + i % 26) + "z";
    }

    private static void full() {
        String[][] rows = {
            {"6 FULL, at the NAME that the ITEM tells: a 9th mode", "mode", "", "8"},
            {"33rd event", "event", "", "32"},
            {"32nd resource told", "resource", "", "31"},
            {"17th counter", "counter", " max 1 base 1 least 1", "16"},
            {"49th task", "task", " priority 1", "48"},
            {"17th isr", "isr", " level 1", "16"},
        };
        for (String[] row : rows) {
            Edge.of("section 1", row[0], () -> {
                int most = Integer.parseInt(row[3]);
                Check.fault(0, Check.items(most - 1, row[1], row[2]));
                Check.fault(0, Check.items(most, row[1], row[2]));
                Check.fault(6, Check.items(most, row[1], row[2]) + row[1] + " ^last" + row[2]);
                Check.fault(6, Check.items(most, row[1], row[2]) + row[1] + " ^last" + row[2] + " mode last");
            });
        }
        Edge.of("section 1", "49th alarm", () -> {
            Check.fault(0, COUNTER + Check.items(47, "alarm", " on c calls"));
            Check.fault(0, COUNTER + Check.items(48, "alarm", " on c calls"));
            Check.fault(6, COUNTER + Check.items(48, "alarm", " on c calls") + "alarm ^last on c calls");
            Check.fault(6, COUNTER + Check.items(48, "alarm", " on c calls") + "alarm ^last on nothing calls");
        });
    }
}
