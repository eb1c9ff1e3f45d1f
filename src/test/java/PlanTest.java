/** Promises 1 to 6: a new object, feed, build, fault, many, name. */
final class PlanTest {
    private static final int NONE = StaticKernel.NONE;

    public static void main(String[] args) {
        newObject();
        feedKeepsTheOrderOfBytes();
        feedRefusesMoreThanTheTapeHolds();
        buildTakesTheFirstBytes();
        textsThatFillTheTape();
        buildRefusesWithoutDoingAnything();
        buildWithFaultKeepsThePlanOfBefore();
        buildForgetsNotesAndValues();
        faultIsOfTheLatestBuild();
        manyOfEachSort();
        namesByEightBytes();
        blanksAndNotes();
        numbersWithNoughtsAhead();
        wordsAreNoNames();
        Check.end("PlanTest");
    }

    private static void newObject() {
        StaticKernel kernel = new StaticKernel();
        Check.same("count(0)", kernel.count(0), 0);
        Check.same("count(1)", kernel.count(1), 0);
        Check.same("count(2)", kernel.count(2), NONE);
        for (int what = 3; what <= 8; what++) {
            Check.same("count " + what, kernel.count(what), 0);
        }
        Check.same("fault(0)", kernel.fault(0), 0);
        Check.same("fault(1)", kernel.fault(1), NONE);
        for (int sort = 0; sort < 7; sort++) {
            Check.same("many " + sort, kernel.many(sort), sort == 2 ? 1 : 0);
        }
        Check.same("the scheduler's ceiling", kernel.resource(0, 0), -1);
        Check.same("start", kernel.start(0), 3);
        Check.same("build of nothing", kernel.build(0), 0);
        Check.same("atWork", kernel.atWork(), NONE);
        Check.same("terminate", kernel.terminate(), 10);
        Check.same("tick", kernel.tick(0, 1), NONE);
        Check.same("call", kernel.call(0), NONE);
    }

    private static void feedKeepsTheOrderOfBytes() {
        StaticKernel kernel = new StaticKernel();
        Check.yes("feed", kernel.feed(0x6d6f6465, 0x20616263, 0x64656667, 0x68696a6b, 0x6c20206d));
        Check.yes("feed", kernel.feed(0x6f646520, 0x7a202020, 0x20202020, 0x20202020, 0x20202020));
        Check.same("count(0)", kernel.count(0), 40);
        Check.same("build", kernel.build(40), 0);
        Check.same("modes", kernel.many(0), 2);
        Check.same("abcdefgh", kernel.name(0, 0, 0), 0x6162636465666768L);
        Check.same("ijkl", kernel.name(0, 0, 8), 0x696a6b6c00000000L);
        Check.same("z", kernel.name(0, 1, 0), 0x7a00000000000000L);
        Check.same("the tape is empty", kernel.count(0), 0);
    }

    private static void feedRefusesMoreThanTheTapeHolds() {
        StaticKernel kernel = new StaticKernel();
        for (int n = 0; n < 200; n++) {
            Check.yes("feed " + n, kernel.feed(0x20202020, 0x20202020, 0x20202020, 0x20202020, 0x20202020));
        }
        Check.same("full", kernel.count(0), 4000);
        Check.yes("feed 200", !kernel.feed(0x21212121, 0, 0, 0, 0));
        Check.same("still full", kernel.count(0), 4000);
        Check.same("build(4001)", kernel.build(4001), -2);
        Check.same("build(4000)", kernel.build(4000), 0);
        Check.same("empty", kernel.count(0), 0);
        Check.yes("feed again", kernel.feed(0, 0, 0, 0, 0));
        Check.same("bytes that are none", kernel.build(20), NONE);
        Check.same("place", kernel.fault(1), 0);
    }

    private static void buildTakesTheFirstBytes() {
        StaticKernel kernel = new StaticKernel();
        Check.feed(kernel, "mode a mode b mode c!");
        Check.same("build(13)", kernel.build(13), 0);
        Check.same("modes", kernel.many(0), 2);
        Check.same("the rest is gone, too", kernel.count(0), 0);
        Check.same("build(1)", kernel.build(1), -2);
        Check.feed(kernel, "mode ab");
        Check.same("a token cut by the end", kernel.build(6), 0);
        Check.same("its name", kernel.name(0, 0, 0), 0x6100000000000000L);
        Check.feed(kernel, "task t priority 123x");
        Check.same("a number cut by the end", kernel.build(18), 0);
        Check.same("its value", kernel.task(0, 4), 12);
        Check.feed(kernel, "mode a # b\n!");
        Check.same("a note cut by the end", kernel.build(9), 0);
    }

    private static void textsThatFillTheTape() {
        String blanks = " ".repeat(3000);
        StaticKernel kernel = new StaticKernel();
        String[] ends = {"task t priority 12", "mode abcdefghijkl", "mode a # note", "mode a #", "mode a\n", "mode m"};
        for (String end : ends) {
            String text = blanks + " ".repeat(1000 - end.length()) + end;
            Check.same("length", Check.feed(kernel, text), 4000);
            Check.same(end, kernel.build(4000), 0);
        }
        String[] faults = {"mode a ,", "mode", "mode a task t priority 65536", "mode abcdefghijklm"};
        int[] places = {3999, 4000, 3995, 3987};
        for (int i = 0; i < faults.length; i++) {
            Check.feed(kernel, blanks + " ".repeat(1000 - faults[i].length()) + faults[i]);
            Check.same(faults[i], kernel.build(4000), NONE);
            Check.same(faults[i] + " place", kernel.fault(1), places[i]);
        }
    }

    private static void buildRefusesWithoutDoingAnything() {
        StaticKernel kernel = new StaticKernel();
        Check.feed(kernel, "mode run task t priority 1 auto run waits e");
        Check.same("too many", kernel.build(61), -2);
        Check.same("below 0", kernel.build(-1), -2);
        Check.same("least int", kernel.build(Integer.MIN_VALUE), -2);
        Check.same("greatest int", kernel.build(Integer.MAX_VALUE), -2);
        Check.same("bytes stay", kernel.count(0), 60);
        Check.same("fault stays", kernel.fault(1), NONE);
        Check.same("build", kernel.build(35), 0);
        Check.same("start", kernel.start(0), 0);
        Check.feed(kernel, "mode two");
        Check.same("on", kernel.build(8), -2);
        Check.same("bytes stay", kernel.count(0), 20);
        Check.same("the plan stays", kernel.many(4), 1);
        Check.same("it runs on", kernel.atWork(), 0);
        Check.same("halt", kernel.halt(0), 0);
        Check.same("off", kernel.build(8), 0);
        Check.same("no task", kernel.many(4), 0);
        Check.same("no note", kernel.count(6), 0);
    }

    private static void buildWithFaultKeepsThePlanOfBefore() {
        StaticKernel kernel = Check.started("mode run counter c max 9 base 2 least 1 task t priority 7 auto run"
                + " resource r task u priority 3 uses r");
        kernel.tick(0, 7);
        kernel.halt(3);
        int length = Check.feed(kernel, "mode other counter d max 5 base 1 least 1 task t priority 64");
        Check.same("build", kernel.build(length), NONE);
        Check.same("tape", kernel.count(0), 0);
        Check.same("kind", kernel.fault(0), 4);
        Check.same("modes", kernel.many(0), 1);
        Check.same("run", kernel.name(0, 0, 0), 0x72756e0000000000L);
        Check.same("value", kernel.counter(0, 0), 3);
        Check.same("ticks", kernel.counter(0, 1), 1);
        Check.same("max", kernel.counter(0, 3), 9);
        Check.same("note", kernel.note(0), 80003);
        Check.same("notes", kernel.count(6), 3);
        Check.same("ceiling", kernel.resource(1, 0), 3);
        Check.same("start", kernel.start(0), 0);
        Check.same("at work", kernel.atWork(), 0);
    }

    private static void buildForgetsNotesAndValues() {
        StaticKernel kernel = Check.started("mode run counter c max 9 base 2 least 1 task t priority 7 auto run"
                + " alarm a on c calls auto run in 2 every 2");
        kernel.tick(0, 3);
        kernel.halt(0);
        Check.same("value", kernel.counter(0, 0), 1);
        int length = Check.feed(kernel, "mode m counter k max 8 base 3 least 2");
        Check.same("build", kernel.build(length), 0);
        Check.same("value", kernel.counter(0, 0), 0);
        Check.same("ticks", kernel.counter(0, 1), 0);
        Check.same("waiting", kernel.counter(0, 2), 0);
        Check.same("max", kernel.counter(0, 3), 8);
        Check.same("base", kernel.counter(0, 4), 3);
        Check.same("least", kernel.counter(0, 5), 2);
        Check.same("notes", kernel.count(6), 0);
        Check.missing("note", () -> kernel.note(0));
        Check.same("alarms", kernel.many(6), 0);
        Check.missing("alarm", () -> kernel.alarm(0, 0));
    }

    private static void faultIsOfTheLatestBuild() {
        StaticKernel kernel = new StaticKernel();
        int length = Check.feed(kernel, "mode a mode a");
        Check.same("build", kernel.build(length), NONE);
        Check.same("kind", kernel.fault(0), 2);
        Check.same("place", kernel.fault(1), 12);
        Check.same("what 2", kernel.fault(2), NONE);
        Check.same("what -1", kernel.fault(-1), NONE);
        Check.same("refused", kernel.build(1), -2);
        Check.same("kind stays", kernel.fault(0), 2);
        Check.same("place stays", kernel.fault(1), 12);
        Check.same("empty plan", kernel.build(0), 0);
        Check.same("kind", kernel.fault(0), 0);
        Check.same("place", kernel.fault(1), NONE);
    }

    private static void manyOfEachSort() {
        StaticKernel kernel = Check.built("mode a event b event c resource d resource e resource f internal"
                + " counter g max 1 base 1 least 1 task h priority 0 task i priority 63 task j priority 1"
                + " isr k level 1 isr l level 16 alarm m on g calls alarm n on g starts h"
                + " alarm o on g calls alarm p on g calls alarm q on g calls");
        int[] due = {1, 2, 4, 1, 3, 2, 5};
        for (int sort = 0; sort < 7; sort++) {
            Check.same("many " + sort, kernel.many(sort), due[sort]);
        }
        Check.same("many 7", kernel.many(7), NONE);
        Check.same("many -1", kernel.many(-1), NONE);
        Check.same("many of the least", kernel.many(Integer.MIN_VALUE), NONE);
        Check.same("resource 1 is d", kernel.name(2, 1, 0), 0x6400000000000000L);
        Check.same("alarm 4 is q", kernel.name(6, 4, 0), 0x7100000000000000L);
    }

    private static void namesByEightBytes() {
        StaticKernel kernel = Check.built("mode abcdefghijkl event a_9 resource twelve_bytes");
        long[] due = {0x6162636465666768L, 0x6263646566676869L, 0x636465666768696aL, 0x6465666768696a6bL,
            0x65666768696a6b6cL, 0x666768696a6b6c00L, 0x6768696a6b6c0000L, 0x68696a6b6c000000L,
            0x696a6b6c00000000L, 0x6a6b6c0000000000L, 0x6b6c000000000000L, 0x6c00000000000000L, 0, 0, 0, 0, 0, 0};
        for (int k = 0; k < due.length; k++) {
            Check.same("from " + k, kernel.name(0, 0, k), due[k]);
        }
        Check.same("far behind", kernel.name(0, 0, Integer.MAX_VALUE), 0);
        Check.same("a_9", kernel.name(1, 0, 0), 0x615f390000000000L);
        Check.same("9", kernel.name(1, 0, 2), 0x3900000000000000L);
        Check.same("behind it", kernel.name(1, 0, 3), 0);
        Check.same("the scheduler", kernel.name(2, 0, 0), 0);
        Check.same("the scheduler", kernel.name(2, 0, 5), 0);
        Check.missing("the scheduler below 0", () -> kernel.name(2, 0, -1));
        Check.missing("k below 0", () -> kernel.name(0, 0, -1));
        Check.missing("no mode 1", () -> kernel.name(0, 1, 0));
        Check.missing("no mode -1", () -> kernel.name(0, -1, 0));
        Check.missing("no resource 2", () -> kernel.name(2, 2, 0));
        Check.missing("no task", () -> kernel.name(4, 0, 0));
        Check.missing("no sort 7", () -> kernel.name(7, 0, 0));
        Check.missing("no sort -1", () -> kernel.name(-1, 0, 0));
    }

    private static void blanksAndNotes() {
        StaticKernel kernel = Check.built("# a note , 99999999 \n\n  mode#x\na # end\nevent\nb#\n#!\u00ff\nresource r#last");
        Check.same("modes", kernel.many(0), 1);
        Check.same("events", kernel.many(1), 1);
        Check.same("resources", kernel.many(2), 2);
        Check.built("mode a mode b task t priority 1#,");
        Check.built("mode a mode b task t priority 1 auto a,b uses r resource r");
        Check.built("mode a mode b task t priority 1 auto a , b#x\nuses\nr\nresource r");
    }

    private static void numbersWithNoughtsAhead() {
        StaticKernel kernel = Check.built("counter c max 00000000000000000065535 base 001000 least 065535"
                + " task t priority 0000063 limit 08");
        Check.same("max", kernel.counter(0, 3), 65535);
        Check.same("base", kernel.counter(0, 4), 1000);
        Check.same("least", kernel.counter(0, 5), 65535);
        Check.same("priority", kernel.task(0, 4), 63);
        Check.same("limit", kernel.task(0, 5), 8);
    }

    private static void wordsAreNoNames() {
        String[] words = {"mode", "event", "resource", "internal", "as", "counter", "max", "base", "least", "task",
            "priority", "isr", "level", "uses", "alarm", "on", "starts", "sets", "calls", "auto", "in", "every",
            "whole", "limit", "waits"};
        for (String word : words) {
            StaticKernel kernel = new StaticKernel();
            int length = Check.feed(kernel, "mode " + word);
            Check.same(word, kernel.build(length), NONE);
            Check.same(word + " kind", kernel.fault(0), 1);
            Check.same(word + " place", kernel.fault(1), 5);
            Check.built("mode " + word + "s1");
            Check.built("mode x" + word);
        }
        Check.built("mode modes mode mod mode internals mode names mode name mode plan mode item mode part");
    }
}
