/** The TAPE, the tokens and the ITEMS of a PLAN: section 1 up to its FAULTS, and promises 1 to 6. */
final class EdgesOfTokens {
    private static final int NONE = StaticKernel.NONE;
    private static final int BLANKS = 0x20202020;
    private static final int BANGS = 0x21212121;
    private static final String PRIORITY = "task t priority ";
    private static final String[] WORDS = {"mode", "event", "resource", "internal", "as", "counter", "max", "base",
        "least", "task", "priority", "isr", "level", "uses", "alarm", "on", "starts", "sets", "calls", "auto", "in",
        "every", "whole", "limit", "waits"};

    private EdgesOfTokens() {
    }

    static void all() {
        newObject();
        tape();
        feed();
        build();
        buildRefuses();
        fault();
        many();
        name();
        blanksAndNotes();
        names();
        numbers();
        wordsAndCommas();
        items();
        numbering();
    }

    private static long letter(char first) {
        return (long) first << 56;
    }

    private static boolean isLetter(int c) {
        return c >= 'a' && c <= 'z';
    }

    private static boolean isDigit(int c) {
        return c >= '0' && c <= '9';
    }

    private static boolean isSpace(int c) {
        return c == 10 || c == 32;
    }

    // ---- promises 1 to 6

    private static void newObject() {
        Edge.of("promise 1", "An empty TAPE", () -> {
            StaticKernel kernel = new StaticKernel();
            Check.same("bytes", kernel.count(0), 0);
            Check.same("build(1)", kernel.build(1), -2);
            Check.same("build(0)", kernel.build(0), 0);
        });
        Edge.of("promise 1", "a PLAN without ITEMS", () -> {
            StaticKernel kernel = new StaticKernel();
            for (int sort = 0; sort < 7; sort++) {
                int which = sort;
                int there = sort == 2 ? 1 : 0;
                Check.same("many " + sort, kernel.many(sort), there);
                Check.missing("name of " + sort, () -> kernel.name(which, there, 0));
            }
            Check.same("mode 0", kernel.start(0), 3);
            Check.missing("task 0", () -> kernel.task(0, 0));
            Check.missing("bits of 0", () -> kernel.bits(0, 0));
            Check.missing("resource 1", () -> kernel.resource(1, 0));
            Check.missing("isr 0", () -> kernel.isr(0, 0));
            Check.missing("counter 0", () -> kernel.counter(0, 0));
            Check.missing("alarm 0", () -> kernel.alarm(0, 0));
        });
        Edge.of("promise 1", "; off.", () -> {
            StaticKernel kernel = new StaticKernel();
            Check.same("on", kernel.count(1), 0);
            Check.same("mode", kernel.count(2), NONE);
            Check.same("terminate", kernel.terminate(), 10);
            Check.same("build, which needs it off", kernel.build(0), 0);
        });
        Edge.of("head", "An object is used for at most 512 calls after it has been made", () -> {
            StaticKernel kernel = Check.started("mode a task t priority 1 auto a limit 2");
            for (int call = 5; call <= 510; call++) {
                int step = (call - 5) % 3;
                Check.same("call " + call, step < 2 ? kernel.activate(0) : kernel.terminate(), step == 1 ? 4 : 0);
            }
            Check.same("call 511", kernel.count(1), 1);
            Check.same("call 512", kernel.halt(127), 0);
        });
    }

    private static void tape() {
        Edge.of("section 1", "The TAPE has at most 4,000 bytes.", () -> {
            StaticKernel kernel = new StaticKernel();
            Check.same("fed", Check.feed(kernel, " ".repeat(3994) + "mode z"), 4000);
            Check.same("bytes", kernel.count(0), 4000);
            Check.yes("no more", !kernel.feed(BANGS, BANGS, BANGS, BANGS, BANGS));
            Check.same("bytes", kernel.count(0), 4000);
            Check.same("build", kernel.build(4000), 0);
            Check.same("z", kernel.name(0, 0, 0), letter('z'));
            Check.faultAt(1, 0, ",".repeat(4000));
            Check.faultAt(2, 12, "mode a ".repeat(571));
            Check.faultAt(1, 3997, "mode a ".repeat(571) + "mod");
        });
    }

    private static void feed() {
        Edge.of("promise 2", "Twenty bytes, the highest of a first, come behind those on the TAPE: true", () -> {
            StaticKernel kernel = new StaticKernel();
            Check.yes("first", kernel.feed(0x6d6f6465, 0x20616263, 0x64656667, 0x68696a6b, 0x6c23feff));
            Check.same("bytes", kernel.count(0), 20);
            Check.yes("behind it", kernel.feed(0x80ff000a, 0x6d6f6465, 0x20797a23, -1, Integer.MIN_VALUE));
            Check.same("bytes", kernel.count(0), 40);
            Check.same("build", kernel.build(40), 0);
            Check.same("modes", kernel.many(0), 2);
            Check.same("abcdefgh", kernel.name(0, 0, 0), 0x6162636465666768L);
            Check.same("ijkl", kernel.name(0, 0, 8), 0x696a6b6c00000000L);
            Check.same("yz", kernel.name(0, 1, 0), 0x797a000000000000L);
        });
        Edge.of("promise 2", "false, and none comes, if there would be more than 4,000", () -> {
            StaticKernel kernel = new StaticKernel();
            for (int n = 0; n < 199; n++) {
                Check.yes("feed " + n, kernel.feed(BLANKS, BLANKS, BLANKS, BLANKS, BLANKS));
            }
            Check.same("bytes", kernel.count(0), 3980);
            Check.yes("up to 4,000", kernel.feed(BLANKS, BLANKS, BLANKS, BLANKS, BLANKS));
            Check.same("bytes", kernel.count(0), 4000);
            Check.yes("beyond", !kernel.feed(BANGS, BANGS, BANGS, BANGS, BANGS));
            Check.yes("beyond once more", !kernel.feed(0, 0, 0, 0, 0));
            Check.same("bytes", kernel.count(0), 4000);
            Check.same("build(4001)", kernel.build(4001), -2);
            Check.same("all are blanks", kernel.build(4000), 0);
            Check.yes("the TAPE is empty", kernel.feed(BANGS, BANGS, BANGS, BANGS, BANGS));
            Check.same("bytes", kernel.count(0), 20);
        });
    }

    private static void build() {
        Edge.of("promise 3", "The first n bytes of the TAPE", () -> {
            StaticKernel kernel = new StaticKernel();
            String text = "mode abc mode def   ";
            int[] modes = {0, 0, 1, 1, 1, 1, 2, 2, 2, 2};
            int[] lengths = {0, 5, 6, 7, 8, 9, 15, 16, 17, 20};
            for (int i = 0; i < lengths.length; i++) {
                Check.feed(kernel, text);
                Check.same("build " + lengths[i], kernel.build(lengths[i]), lengths[i] == 5 ? NONE : 0);
                Check.same("modes of " + lengths[i], kernel.many(0), modes[i]);
            }
            Check.feed(kernel, text);
            kernel.build(7);
            Check.same("ab", kernel.name(0, 0, 0), 0x6162000000000000L);
            Check.feed(kernel, text);
            kernel.build(8);
            Check.same("abc", kernel.name(0, 0, 0), 0x6162630000000000L);
        });
        Edge.of("promise 3", "which is empty then", () -> {
            StaticKernel kernel = new StaticKernel();
            Check.feed(kernel, "mode a              mode b");
            Check.same("build(6)", kernel.build(6), 0);
            Check.same("none left", kernel.count(0), 0);
            Check.feed(kernel, "mode c");
            Check.same("the first ones again", kernel.build(20), 0);
            Check.same("c alone", kernel.many(0), 1);
            Check.same("c", kernel.name(0, 0, 0), letter('c'));
            Check.feed(kernel, "!");
            Check.same("build(0)", kernel.build(0), 0);
            Check.same("none left of build(0)", kernel.count(0), 0);
            Check.feed(kernel, "! mode d");
            Check.same("with a FAULT", kernel.build(20), NONE);
            Check.same("none left with a FAULT", kernel.count(0), 0);
            Check.same("build(1)", kernel.build(1), -2);
        });
        Edge.of("promise 3", "are the PLAN from now on: 0", () -> {
            StaticKernel kernel = Check.built("mode a mode b task t priority 1 resource r");
            int length = Check.feed(kernel, "mode c");
            Check.same("build", kernel.build(length), 0);
            Check.same("modes", kernel.many(0), 1);
            Check.same("tasks", kernel.many(4), 0);
            Check.same("resources", kernel.many(2), 1);
            Check.same("build(0)", kernel.build(0), 0);
            Check.same("modes", kernel.many(0), 0);
            String plain = "mode a resource r counter c max 9 base 1 least 1 task t priority 1 auto a isr i level 1"
                    + " alarm x on c calls";
            StaticKernel other = Check.started("mode z event e resource q internal counter d max 5 base 2 least 2"
                    + " task u priority 9 whole waits e uses q auto z isr j level 3 alarm y on d sets u e auto z in 5 every 4");
            other.tick(0, 1);
            other.halt(0);
            Check.same("build", other.build(Check.feed(other, plain)), 0);
            Check.same("nothing of the PLAN of before", Edge.seen(other), Edge.seen(Check.built(plain)));
            other.start(0);
            Check.same("nor in what it does", Edge.seen(other), Edge.seen(Check.started(plain)));
            StaticKernel third = Check.built("resource a resource x");
            Check.same("x means nothing now", third.build(Check.feed(third, "resource r as x")), NONE);
            Check.same("kind", third.fault(0), 3);
            Check.same("place", third.fault(1), 14);
        });
        Edge.of("promise 3", "NONE with a FAULT (the PLAN of before stays)", () -> {
            StaticKernel kernel = Check.built("mode a task t priority 7 auto a resource r task u priority 9 uses r");
            String before = Edge.seen(kernel);
            for (String text : new String[] {"mode b !", "mode b mode b", "mode b task s priority 1 uses x",
                "mode b task s priority 64", "resource s as s", Check.items(9, "mode", "")}) {
                Check.same(text, kernel.build(Check.feed(kernel, text)), NONE);
                Check.same(text, Edge.seen(kernel), before);
                Check.same("a", kernel.name(0, 0, 0), letter('a'));
            }
            Check.same("start", kernel.start(0), 0);
            Check.same("t", kernel.running(), 0);
        });
    }

    private static void buildRefuses() {
        Edge.of("promise 3", "-2, and nothing is done, if the kernel is not off", () -> {
            StaticKernel kernel = Check.started("mode a task t priority 1 auto a");
            int length = Check.feed(kernel, "mode b mode c");
            String before = Edge.seen(kernel);
            Check.same("on", kernel.build(length), -2);
            Check.same("on, of nothing", kernel.build(0), -2);
            Check.same("nothing is done", Edge.seen(kernel), before);
            kernel.terminate();
            Check.same("on, and idle", kernel.build(length), -2);
            Check.same("bytes", kernel.count(0), 20);
            StaticKernel other = Check.started("mode a task t priority 1 auto a");
            Check.feed(other, "mode b mode c");
            other.halt(0);
            Check.same("off", other.build(length), 0);
            Check.same("modes", other.many(0), 2);
        });
        Edge.of("promise 3", "or n is not 0 .. the bytes that there are", () -> {
            StaticKernel kernel = new StaticKernel();
            Check.feed(kernel, "mode b mode c       ");
            String before = Edge.seen(kernel);
            Edge.each("build", -2, kernel::build, -1, 21, Integer.MIN_VALUE, Integer.MAX_VALUE, 4000);
            Check.same("nothing is done", Edge.seen(kernel), before);
            Check.same("fault stays", kernel.fault(1), NONE);
            Check.same("all", kernel.build(20), 0);
            Check.same("modes", kernel.many(0), 2);
            Check.same("-1 of none", kernel.build(-1), -2);
            Check.same("1 of none", kernel.build(1), -2);
            Check.same("the PLAN stays", kernel.many(0), 2);
            Check.same("0 of none", kernel.build(0), 0);
            Check.same("the PLAN is empty", kernel.many(0), 0);
        });
    }

    private static void fault() {
        Edge.of("promise 4", "Of the latest build() that gave 0 or NONE", () -> {
            StaticKernel kernel = new StaticKernel();
            Check.same("ahead of any", kernel.fault(0), 0);
            Check.same("ahead of any", kernel.fault(1), NONE);
            kernel.build(Check.feed(kernel, "mode a mode a"));
            Check.same("kind", kernel.fault(0), 2);
            Check.same("place", kernel.fault(1), 12);
            Check.same("one that gives -2", kernel.build(1), -2);
            Check.same("kind", kernel.fault(0), 2);
            Check.same("place", kernel.fault(1), 12);
            kernel.build(Check.feed(kernel, "!"));
            Check.same("kind", kernel.fault(0), 1);
            Check.same("place", kernel.fault(1), 0);
            Check.same("one that gives 0", kernel.build(0), 0);
            Check.same("kind", kernel.fault(0), 0);
            Check.same("place", kernel.fault(1), NONE);
        });
        Edge.of("promise 4", "its FAULT's kind (what 0; 0 without), its place (1; NONE without)", () -> {
            Check.faultAt(0, NONE, "mode a");
            Check.faultAt(1, 0, "!");
            Check.faultAt(6, 77, Check.items(8, "mode", "") + "mode x");
        });
        Edge.of("promise 4", "NONE for another what", () -> {
            StaticKernel kernel = new StaticKernel();
            kernel.build(Check.feed(kernel, "mode a mode a"));
            Edge.each("fault", NONE, kernel::fault, -1, 2, Integer.MIN_VALUE, Integer.MAX_VALUE);
        });
    }

    private static void many() {
        Edge.of("promise 5", "0 modes, 1 events, 2 resources (the SCHEDULER, too), 3 counters, 4 tasks, 5 isrs, 6 alarms", () -> {
            StaticKernel kernel = Check.built("mode a event b event c counter d max 1 base 1 least 1"
                    + " counter e max 1 base 1 least 1 counter f max 1 base 1 least 1 resource g resource h resource i"
                    + Check.items(5, " task", " priority 1") + Check.items(6, " isr", " level 1").replace("z ", "y ")
                    + Check.items(7, " alarm", " on d calls").replace("z ", "x "));
            int[] due = {1, 2, 4, 3, 5, 6, 7};
            for (int sort = 0; sort < 7; sort++) {
                Check.same("many " + sort, kernel.many(sort), due[sort]);
            }
            kernel.build(0);
            Check.same("the SCHEDULER alone", kernel.many(2), 1);
        });
        Edge.of("promise 5", "NONE for another sort", () -> {
            StaticKernel kernel = Check.built("mode a counter c max 1 base 1 least 1 alarm b on c calls");
            Check.same("the last sort", kernel.many(6), 1);
            Edge.each("many", NONE, kernel::many, -1, 7, Integer.MIN_VALUE, Integer.MAX_VALUE);
        });
    }

    private static void name() {
        Edge.of("promise 6", "from its k-th on (k from 0), the first one highest, 0 behind its end", () -> {
            StaticKernel kernel = Check.built("mode abcdefghijkl mode z mode abcdefgh mode abcdefghi");
            String[] names = {"abcdefghijkl", "z", "abcdefgh", "abcdefghi"};
            for (int i = 0; i < names.length; i++) {
                for (int k = 0; k < 22; k++) {
                    long due = 0;
                    for (int at = k; at < k + 8; at++) {
                        due = due << 8 | (at < names[i].length() ? names[i].charAt(at) : 0);
                    }
                    Check.same(names[i] + " from " + k, kernel.name(0, i, k), due);
                }
                Check.same(names[i] + " from 64", kernel.name(0, i, 64), 0);
                Check.same(names[i] + " from the greatest int", kernel.name(0, i, Integer.MAX_VALUE), 0);
            }
        });
        Edge.of("promise 6", "(all 0 of the SCHEDULER)", () -> {
            StaticKernel kernel = Check.built("resource abcdefghijkl");
            Edge.each("name of the SCHEDULER from", 0, k -> kernel.name(2, 0, k), 0, 1, 8, 12, Integer.MAX_VALUE);
            Check.same("resource 1", kernel.name(2, 1, 0), 0x6162636465666768L);
        });
        Edge.of("promise 6", "NoSuchElementException: there is no such thing, or k is below 0.", () -> {
            StaticKernel kernel = Check.built("mode a resource r counter c max 1 base 1 least 1 task t priority 1 isr i level 1"
                    + " alarm x on c calls event e");
            for (int sort = 0; sort < 7; sort++) {
                int which = sort;
                int there = sort == 2 ? 2 : 1;
                Check.yes("the last", kernel.name(sort, there - 1, 0) != 0);
                Edge.missing("sort " + sort + ", thing", i -> kernel.name(which, i, 0), Edge.NO_NUMBERS);
                Edge.missing("sort " + sort + ", thing", i -> kernel.name(which, i, 0), there, there + 1);
                Edge.missing("sort " + sort + ", from", k -> kernel.name(which, 0, k), -1, -8, Integer.MIN_VALUE);
            }
            Edge.missing("sort", sort -> kernel.name(sort, 0, 0), -1, 7, Integer.MIN_VALUE, Integer.MAX_VALUE);
        });
    }

    // ---- section 1: tokens

    private static void blanksAndNotes() {
        Edge.of("section 1", "between them blanks (10, 32)", () -> {
            for (int c = 0; c < 256; c++) {
                String text = "mode" + (char) c + "a";
                if (isSpace(c)) {
                    Check.faultAt(0, NONE, text);
                } else if (c == '#') {
                    Check.faultAt(1, 6, text);
                } else {
                    Check.faultAt(1, isLetter(c) || isDigit(c) || c == '_' ? 0 : 4, text);
                }
            }
            Check.fault(0, "\n \n mode \n\n  a \n");
        });
        Edge.of("section 1", "notes (from a # to ahead of the next 10, or the end)", () -> {
            StaticKernel kernel = Check.built("#!\nmode#,#\na#99999\nmode b#\rmode x\nmode c #");
            Check.same("modes", kernel.many(0), 3);
            Check.fault(0, "#");
            Check.fault(0, "#!");
            Check.fault(1, "#\n^!");
            Check.fault(1, "mode#a^");
            Check.fault(1, "mode #a\n^");
            Check.fault(0, "mode a#" + "!".repeat(3993));
            Check.fault(1, "mode a#" + "!".repeat(3991) + "\n^!");
        });
    }

    private static void names() {
        Edge.of("section 1", "a NAME: a letter a .. z", () -> {
            for (int c = 0; c < 256; c++) {
                String text = "mode " + (char) c;
                if (isLetter(c)) {
                    Check.faultAt(0, NONE, text);
                } else {
                    Check.faultAt(1, isSpace(c) || c == '#' ? 6 : 5, text);
                }
            }
        });
        Edge.of("section 1", "then letters a .. z, digits, _", () -> {
            for (int c = 0; c < 256; c++) {
                String text = "mode x" + (char) c;
                boolean isPart = isLetter(c) || isDigit(c) || c == '_';
                if (isPart || isSpace(c) || c == '#') {
                    StaticKernel kernel = Check.built(text);
                    Check.same(text, kernel.name(0, 0, 0), letter('x') | (isPart ? (long) c << 48 : 0));
                } else {
                    Check.faultAt(1, 6, text);
                }
            }
        });
        Edge.of("section 1", "in all at most 12", () -> {
            for (int length = 1; length <= 12; length++) {
                StaticKernel kernel = Check.built("mode x" + "_".repeat(length - 1));
                Check.yes("its last", kernel.name(0, 0, length - 1) != 0);
                Check.same("behind it", kernel.name(0, 0, length), 0);
            }
            Check.fault(1, "mode ^x" + "_".repeat(12));
            Check.fault(1, "mode ^x" + "_".repeat(13));
            Check.fault(1, "mode ^x" + "_".repeat(3994));
            Check.fault(0, "mode abcdefghijkl mode abcdefghijkm");
        });
    }

    private static void numbers() {
        Edge.of("section 1", "a NUMBER: digits", () -> {
            for (int c = 0; c < 256; c++) {
                if (isDigit(c)) {
                    Check.same("value", Check.built(PRIORITY + (char) c).task(0, 4), c - '0');
                } else {
                    Check.faultAt(1, isSpace(c) || c == '#' ? 17 : 16, PRIORITY + (char) c);
                }
            }
        });
        Edge.of("section 1", "its value at most 65535", () -> {
            Check.same("max", Check.built("counter c max 65535 base 1 least 1").counter(0, 3), 65535);
            Check.fault(1, "counter c max ^65536 base 1 least 1");
            Check.fault(4, PRIORITY + "^65535");
            Check.fault(1, PRIORITY + "^65536");
            Check.fault(1, PRIORITY + "^131072");
            Check.fault(1, PRIORITY + "^4294967296");
            Check.fault(1, PRIORITY + "^4294967297");
            Check.fault(1, PRIORITY + "^18446744073709551617");
            Check.fault(1, PRIORITY + "^1" + "0".repeat(3000));
        });
        Edge.of("section 1", "(noughts ahead as many as there are)", () -> {
            Check.same("one", Check.built(PRIORITY + "063").task(0, 4), 63);
            Check.same("noughts alone", Check.built(PRIORITY + "000000").task(0, 4), 0);
            Check.same("all that fit", Check.built(PRIORITY + "0".repeat(3982) + "63").task(0, 4), 63);
            Check.fault(4, PRIORITY + "^" + "0".repeat(3979) + "65535");
            Check.fault(1, PRIORITY + "^" + "0".repeat(3979) + "65536");
        });
        Edge.of("section 1", "no letter a .. z or _ directly behind", () -> {
            for (int c = 0; c < 256; c++) {
                String text = PRIORITY + "1" + (char) c;
                if (isDigit(c) || isSpace(c) || c == '#') {
                    Check.faultAt(0, NONE, text);
                } else {
                    Check.faultAt(1, isLetter(c) || c == '_' ? 16 : 17, text);
                }
            }
            Check.fault(1, PRIORITY + "^1whole");
            Check.fault(0, PRIORITY + "1 whole");
            Check.fault(0, PRIORITY + "1\nwhole");
            Check.fault(0, PRIORITY + "1#\nwhole");
        });
    }

    private static void wordsAndCommas() {
        Edge.of("section 1", "TOKENS, as long as they can be", () -> {
            Check.fault(0, "mode modea");
            Check.fault(1, "^modea b");
            Check.same("12 is one NUMBER", Check.built(PRIORITY + "12").task(0, 4), 12);
            Check.fault(1, PRIORITY + "1 ^2");
            Check.same("in0 is one NAME", Check.built("mode in0").name(0, 0, 0), 0x696e300000000000L);
        });
        Edge.of("section 1", "; a comma.", () -> {
            String tail = " mode a mode b";
            Check.fault(0, PRIORITY + "1 auto a,b" + tail);
            Check.fault(0, PRIORITY + "1 auto a , b" + tail);
            Check.fault(0, PRIORITY + "1 auto a#\n,#\nb" + tail);
            Check.fault(1, PRIORITY + "1 auto a,^,b" + tail);
            Check.fault(1, PRIORITY + "1 auto a^;b" + tail);
            Check.fault(1, PRIORITY + "1 auto a, b, ^mode a");
        });
        Edge.of("section 1", "A NAME that stands in quotes in the next lines is a WORD, and no NAME.", () -> {
            for (String word : WORDS) {
                Check.fault(1, "mode ^" + word);
                Check.fault(1, PRIORITY + "1 auto ^" + word);
                Check.fault(0, "mode " + word + "_");
                Check.fault(0, "mode x" + word);
                Check.fault(0, "mode " + word.substring(0, word.length() - 1));
            }
            Check.fault(0, "mode plan mode item mode part mode names mode name mode number mode text");
        });
    }

    // ---- section 1: ITEMS

    private static void items() {
        Edge.of("section 1", "PLAN: { ITEM }.", () -> {
            Check.fault(0, "");
            Check.fault(0, "mode a");
            Check.fault(0, "mode a event b");
            Check.fault(1, "mode a ^x");
        });
        Edge.of("section 1", "ITEM: 'mode' NAME | 'event' NAME", () -> {
            for (String word : new String[] {"mode", "event"}) {
                Check.fault(0, word + " a");
                Check.fault(1, word + "^");
                Check.fault(1, word + " ^1");
                Check.fault(1, word + " ^,");
                Check.fault(1, word + " a ^b");
                Check.fault(1, word + " a^, b");
                Check.fault(1, word + " a ^internal");
            }
        });
        Edge.of("section 1", "'resource' NAME [ 'internal' | 'as' NAME ]", () -> {
            Check.fault(0, "resource r");
            Check.fault(0, "resource r internal");
            Check.fault(0, "resource r as s resource s");
            Check.fault(1, "resource r internal ^internal");
            Check.fault(1, "resource r internal ^as s resource s");
            Check.fault(1, "resource r as s ^internal resource s");
            Check.fault(1, "resource r as s ^as s resource s");
            Check.fault(1, "resource r as^");
        });
        Edge.of("section 1", "'counter' NAME 'max' NUMBER 'base' NUMBER 'least' NUMBER", () -> {
            Check.fault(0, "counter c max 1 base 1 least 1");
            Check.fault(1, "counter c max 1 base 1^");
            Check.fault(1, "counter c max 1 base 1 ^mode a");
            Check.fault(1, "counter c max 1 ^least 1 base 1");
            Check.fault(1, "counter c max 1 base 1 least 1 ^least 1");
        });
        Edge.of("section 1", "'task' NAME 'priority' NUMBER { PART }", () -> {
            String tail = " mode a resource r event e";
            Check.fault(0, "task t priority 1" + tail);
            Check.fault(0, "task t priority 1 whole" + tail);
            Check.fault(0, "task t priority 1 whole limit 1 auto a uses r waits e" + tail);
            Check.fault(0, "task t priority 1 waits e uses r auto a limit 1 whole" + tail);
            Check.fault(1, "task t^");
            Check.fault(1, "task t ^whole priority 1");
            Check.fault(1, "task t priority 1 ^priority 1");
            Check.fault(1, "task t priority^");
        });
        Edge.of("section 1", "PART: 'whole' | 'limit' NUMBER | 'auto' NAMES | 'uses' NAMES | 'waits' NAMES.", () -> {
            Check.fault(1, "task t priority 1 whole ^1");
            Check.fault(1, "task t priority 1 whole ^a");
            Check.fault(1, "task t priority 1 limit^");
            Check.fault(1, "task t priority 1 limit ^a");
            Check.fault(1, "task t priority 1 limit 1 ^1");
            for (String word : new String[] {"auto", "uses", "waits"}) {
                Check.fault(1, "task t priority 1 " + word + "^");
                Check.fault(1, "task t priority 1 " + word + " ^1");
                Check.fault(1, "task t priority 1 " + word + " ^whole");
                Check.fault(1, "task t priority 1 " + word + " a ^b");
            }
            Check.fault(1, "task t priority 1 ^internal");
            Check.fault(1, "task t priority 1 ^level 1");
        });
        Edge.of("section 1", "'isr' NAME 'level' NUMBER [ 'uses' NAMES ]", () -> {
            Check.fault(0, "isr i level 1 resource r");
            Check.fault(0, "isr i level 1 uses r resource r");
            Check.fault(1, "isr i level 1 uses r ^uses r resource r");
            Check.fault(1, "isr i level 1 uses ^resource r");
            Check.fault(1, "isr i level 1 ^auto a");
        });
        Edge.of("section 1", "'alarm' NAME 'on' NAME", () -> {
            String tail = " calls counter c max 9 base 1 least 1";
            Check.fault(0, "alarm a on c" + tail);
            Check.fault(1, "alarm a ^c" + tail);
            Check.fault(1, "alarm a on^");
            Check.fault(1, "alarm a on ^calls");
            Check.fault(1, "alarm a on c^, c" + tail);
            Check.fault(1, "alarm ^on c" + tail);
        });
        Edge.of("section 1", "( 'starts' NAME | 'sets' NAME NAME | 'calls' ) [ 'auto' NAMES 'in' NUMBER [ 'every'"
                + " NUMBER ] ]", () -> {
            String head = "mode m event e counter c max 9 base 1 least 1 task t priority 1 waits e alarm a on c ";
            Check.fault(0, head + "starts t");
            Check.fault(0, head + "sets t e");
            Check.fault(0, head + "calls");
            Check.fault(0, head + "calls auto m in 1");
            Check.fault(0, head + "calls auto m in 1 every 1");
            Check.fault(1, head + "^");
            Check.fault(1, head + "^auto m in 1");
            Check.fault(1, head + "calls ^calls");
            Check.fault(1, head + "sets t^");
            Check.fault(1, head + "sets t ^mode b");
            Check.fault(1, head + "calls auto m^");
            Check.fault(1, head + "calls auto m ^every 1");
            Check.fault(1, head + "calls ^in 1");
            Check.fault(1, head + "calls auto m in 1 every^");
            Check.fault(1, head + "calls auto m in 1 every 1 ^every 1");
        });
        Edge.of("section 1", "NAMES: NAME { , NAME }.", () -> {
            String modes = Check.items(8, "mode", "");
            Check.fault(0, modes + "task t priority 1 auto aaz");
            Check.fault(0, modes + "task t priority 1 auto aaz,abz");
            Check.fault(0, modes + "task t priority 1 auto aaz,abz,acz,adz,aez,afz,agz,ahz");
            Check.fault(1, modes + "task t priority 1 auto^");
            Check.fault(1, modes + "task t priority 1 auto aaz,^");
            Check.fault(1, modes + "task t priority 1 auto ^,aaz");
            Check.fault(1, modes + "task t priority 1 auto aaz ^abz");
        });
    }

    private static void numbering() {
        Edge.of("section 1", "Things of each SORT are numbered from 0 on, as they are told", () -> {
            StaticKernel kernel = Check.built("task z priority 1 mode y task x priority 2 mode w event v isr u level 1"
                    + " task s priority 3");
            Check.same("task 0", kernel.name(4, 0, 0), letter('z'));
            Check.same("task 1", kernel.name(4, 1, 0), letter('x'));
            Check.same("task 2", kernel.name(4, 2, 0), letter('s'));
            Check.missing("task 3", () -> kernel.name(4, 3, 0));
            Check.same("mode 0", kernel.name(0, 0, 0), letter('y'));
            Check.same("mode 1", kernel.name(0, 1, 0), letter('w'));
            Check.missing("mode 2", () -> kernel.name(0, 2, 0));
        });
        Edge.of("section 1", "resource 0 is the SCHEDULER, which has no NAME, those told are 1 and on", () -> {
            StaticKernel kernel = Check.built("resource a resource b");
            Check.same("resource 0", kernel.name(2, 0, 0), 0);
            Check.same("resource 1", kernel.name(2, 1, 0), letter('a'));
            Check.same("resource 2", kernel.name(2, 2, 0), letter('b'));
            Check.missing("resource 3", () -> kernel.name(2, 3, 0));
        });
        Edge.of("section 1", "What a NAME means is what the first ITEM that tells it says, wherever that stands.", () -> {
            Check.fault(0, "task t priority 1 uses x resource x");
            Check.fault(0, "resource x task t priority 1 uses x");
            Check.fault(2, "task t priority 1 uses x resource x mode ^x");
            Check.fault(3, "task t priority 1 uses ^x mode x resource x");
            Check.fault(3, "mode x task t priority 1 uses ^x resource x");
            Check.fault(5, "resource y as ^x resource x internal resource x");
            Check.fault(2, "resource y as x resource x resource ^x internal");
        });
    }
}
