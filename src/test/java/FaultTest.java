/** The FAULTS of promise 3 and 4: their kinds, their places, and which comes first. */
final class FaultTest {
    private static final String COUNTER = "counter c max 10 base 1 least 3 ";

    public static void main(String[] args) {
        tokensThatAreNone();
        tokensWithWhichNothingGoesOn();
        endsTooSoon();
        kindOneComesFirst();
        twice();
        unknown();
        range();
        rangesHold();
        rules();
        rulesHold();
        full();
        fullHolds();
        firstAlongTheText();
        meaningsReachForward();
        longTexts();
        Check.end("FaultTest");
    }

    private static void due(int kind, String marked) {
        Check.fault(kind, marked);
    }

    private static void tokensThatAreNone() {
        due(1, "^!");
        due(1, "mode a ^A");
        due(1, "mode ^Abc");
        due(1, "mode a^B");
        due(1, "mode ^_a");
        due(1, "mode a^-b");
        due(1, "mode a^\t");
        due(1, "mode a^\r\nmode b");
        due(1, "mode a^\u0000");
        due(1, "mode a^\u00e1");
        due(1, "mode ^abcdefghijklm");
        due(1, "mode ^abcdefghijklmnopqrstuvwxyz0123456789");
        due(0, "mode abcdefghijkl");
        due(1, "task t priority ^65536");
        due(1, "task t priority ^99999999999999999999999999");
        due(1, "task t priority ^4294967296");
        due(1, "task t priority ^000000000065536");
        due(4, "task t priority ^65535");
        due(1, "task t priority ^1auto");
        due(1, "task t priority ^1_");
        due(1, "task t priority 1^A");
        due(1, "task t priority 1^, 2");
        due(0, "task t priority 1#a");
        due(1, "mode ^1a");
        due(1, "mode ^1");
    }

    private static void tokensWithWhichNothingGoesOn() {
        due(1, "^a");
        due(1, "^,");
        due(1, "^5");
        due(1, "^internal");
        due(1, "^priority 5");
        due(1, "mode a ^b");
        due(1, "mode a^, b");
        due(1, "mode ^mode a");
        due(1, "event ^5");
        due(1, "resource r internal ^as s");
        due(1, "resource r as s ^internal");
        due(1, "resource r as s^, t");
        due(1, "resource r as ^as");
        due(1, "resource ^internal");
        due(1, "counter c ^base 1");
        due(1, "counter c max ^x");
        due(1, "counter c max 5 ^least 1");
        due(1, "counter c max 5 base 1 ^max 1");
        due(1, "counter c max 5 base 1 least ^least");
        due(1, "counter c max 5 base 1 least 1 ^1");
        due(1, "task t ^whole");
        due(1, "task t priority ^whole");
        due(1, "task t priority 1 ^priority 2");
        due(1, "task t priority 1 whole ^5");
        due(1, "task t priority 1 limit ^whole");
        due(1, "task t priority 1 auto ^5");
        due(1, "task t priority 1 auto a ^b");
        due(1, "task t priority 1 auto a, ^limit");
        due(1, "task t priority 1 auto a, ^, b");
        due(1, "task t priority 1 uses ^, r");
        due(1, "task t priority 1 waits ^waits");
        due(1, "task t priority 1 ^internal");
        due(1, "task t priority 1 auto a ^in 5");
        due(1, "isr i ^priority 1");
        due(1, "isr i level ^uses");
        due(1, "isr i level 1 ^whole");
        due(1, "isr i level 1 uses r ^uses s");
        due(1, "isr i level 1 uses ^isr");
        due(1, "alarm a ^starts t");
        due(1, "alarm a on ^5");
        due(1, "alarm a on c ^auto m");
        due(1, "alarm a on c starts ^calls");
        due(1, "alarm a on c starts t ^e");
        due(1, "alarm a on c sets t ^auto");
        due(1, "alarm a on c sets t^, e");
        due(1, "alarm a on c sets t e ^f");
        due(1, "alarm a on c calls ^t");
        due(1, "alarm a on c calls ^in 5");
        due(1, "alarm a on c calls auto m ^every 5");
        due(1, "alarm a on c calls auto m in ^every");
        due(1, "alarm a on c calls auto m in 5 every ^x");
        due(1, "alarm a on c calls auto m in 5 every 6 ^every 6");
        due(1, "alarm a on c calls auto m in 5 ^in 5");
        due(1, "alarm a on c calls auto m in 5 ^auto m");
    }

    private static void endsTooSoon() {
        due(1, "mode^");
        due(1, "mode   ^");
        due(1, "mode a resource ^");
        due(1, "resource r as ^");
        due(1, "counter c max 1 base 1 least^");
        due(1, "task t^");
        due(1, "task t priority^");
        due(1, "task t priority 1 limit^");
        due(1, "task t priority 1 auto a,^");
        due(1, "task t priority # and no more\n^");
        due(1, "isr i^");
        due(1, "isr i level 1 uses\n^");
        due(1, "alarm a on c^");
        due(1, "alarm a on c sets t^");
        due(1, "alarm a on c calls auto m^");
        due(1, "alarm a on c calls auto m in^");
        due(1, "alarm a on c calls auto m in 5 every # x^");
    }

    private static void kindOneComesFirst() {
        due(1, "mode a mode a task t priority 99 uses x ^!");
        due(1, "mode a mode a mode^");
        due(1, "task t priority 99 ^in 5 !");
        due(0, "");
        due(0, "   \n\n");
        due(0, "# nothing");
        due(0, "#");
    }

    private static void twice() {
        due(2, "mode a mode ^a");
        due(2, "mode a event ^a");
        due(2, "event a resource ^a internal");
        due(2, "task t priority 1 isr ^t level 1");
        due(2, "counter c max 1 base 1 least 1 alarm ^c on c calls");
        due(2, "mode m mode n task t priority 1 auto m, n, ^m");
        due(2, "mode m task t priority 1 auto m,^m");
        due(2, "event e task t priority 1 waits e,^e");
        due(2, "resource r isr i level 1 uses r,^r");
        due(2, COUNTER + "mode m alarm a on c calls auto m,^m in 5");
        due(2, "task t priority 1 whole ^whole");
        due(2, "task t priority 1 limit 1 ^limit 1");
        due(2, "mode m mode n task t priority 1 auto m ^auto n");
        due(2, "resource r resource s task t priority 1 uses r whole ^uses s");
        due(2, "event e event f task t priority 1 waits e limit 1 ^waits f");
        due(0, "mode m task t priority 1 whole auto m task u priority 1 whole auto m");
        due(0, "resource r task t priority 1 uses r task u priority 1 uses r isr i level 1 uses r");
        due(0, "mode m event e task t priority 1 waits e auto m");
        due(2, "mode abcdefghijkl mode abcdefghijkk mode ^abcdefghijkl");
        due(0, "mode abcdefgh mode abcdefghi mode abcdefg");
    }

    private static void unknown() {
        due(3, "resource r as ^x");
        due(3, "mode m resource r as ^m");
        due(3, "task t priority 1 uses ^x");
        due(3, "event e task t priority 1 uses ^e");
        due(3, "resource r task t priority 1 uses r,^t");
        due(3, "isr i level 1 uses ^i");
        due(3, "task t priority 1 auto ^x");
        due(3, "resource r task t priority 1 auto ^r");
        due(3, "task t priority 1 waits ^x");
        due(3, "mode m task t priority 1 waits ^m");
        due(3, "alarm a on ^x calls");
        due(3, "alarm a on ^a calls");
        due(3, COUNTER + "alarm a on c starts ^c");
        due(3, COUNTER + "isr i level 1 alarm a on c starts ^i");
        due(3, COUNTER + "alarm a on c sets ^x y");
        due(3, COUNTER + "event e task t priority 1 waits e alarm a on c sets t ^x");
        due(3, COUNTER + "event e task t priority 1 waits e alarm a on c sets t ^t");
        due(3, COUNTER + "event e task t priority 1 waits e alarm a on c sets ^e t");
        due(3, COUNTER + "event e alarm a on c calls auto ^e in 5");
        due(3, "task t priority 1 uses ^x,x");
        due(2, "resource x task t priority 1 uses x,^x,y");
    }

    private static void range() {
        due(4, "task t priority ^64");
        due(4, "task t priority 1 limit ^0");
        due(4, "task t priority 1 limit ^9");
        due(4, "counter c max ^0 base 1 least 1");
        due(4, "counter c max 1 base ^0 least 1");
        due(4, "counter c max 1 base ^1001 least 1");
        due(4, "counter c max 9 base 1 least ^0");
        due(4, "counter c max 9 base 1 least ^10");
        due(4, "isr i level ^0");
        due(4, "isr i level ^17");
        due(4, COUNTER + "mode m alarm a on c calls auto m in ^0");
        due(4, COUNTER + "mode m alarm a on c calls auto m in ^11");
        due(4, COUNTER + "mode m alarm a on c calls auto m in 10 every ^1");
        due(4, COUNTER + "mode m alarm a on c calls auto m in 10 every ^2");
        due(4, COUNTER + "mode m alarm a on c calls auto m in 10 every ^11");
        due(4, "mode m alarm a on c calls auto m in ^5 counter c max 0 base 1 least 1");
        due(4, "mode m alarm a on c calls auto m in ^5 counter c max 4 base 1 least 1");
        due(4, "event e task t priority 1 limit ^9 waits e");
    }

    private static void rangesHold() {
        due(0, "task t priority 0 limit 1 task u priority 63 limit 8");
        due(0, "counter c max 1 base 1 least 1 counter d max 65535 base 1000 least 65535");
        due(0, "isr i level 1 isr j level 16");
        due(0, COUNTER + "mode m alarm a on c calls auto m in 1");
        due(0, COUNTER + "mode m alarm a on c calls auto m in 10 every 0");
        due(0, COUNTER + "mode m alarm a on c calls auto m in 10 every 3");
        due(0, COUNTER + "mode m alarm a on c calls auto m in 10 every 10");
        due(0, "mode m alarm a on c calls auto m in 5 every 5 counter c max 5 base 1 least 5");
    }

    private static void rules() {
        due(5, "event e task t priority 1 waits e limit ^2");
        due(5, "event e task t priority 1 limit ^8 waits e");
        due(5, "resource r internal resource s internal task t priority 1 uses r,^s");
        due(5, "resource r internal resource q resource s internal task t priority 1 uses r,q,^s");
        due(5, "task t priority 1 uses r,q,^s resource r internal resource q resource s internal");
        due(5, "resource r internal isr i level 1 uses ^r");
        due(5, "resource q resource r internal isr i level 1 uses q,^r");
        due(5, "resource r internal resource s as ^r");
        due(5, "resource s as ^r resource r internal");
        due(5, "resource r as ^r");
        due(5, "resource r as ^s resource s as r");
        due(5, "resource q as ^r resource r as s resource s as r");
        due(5, "resource p resource q as p resource s as ^t resource t as u resource u as s");
        due(5, COUNTER + "event e event f task t priority 1 waits e alarm a on c sets t ^f");
        due(5, COUNTER + "event e task t priority 1 alarm a on c sets t ^e");
        due(5, COUNTER + "alarm a on c sets t ^f event e event f task u priority 1 waits f task t priority 1 waits e");
    }

    private static void rulesHold() {
        due(0, "event e task t priority 1 waits e limit 1");
        due(0, "resource r internal resource s internal task t priority 1 uses r task u priority 1 uses s");
        due(0, "resource q resource r internal resource s task t priority 1 uses q,r,s");
        due(0, "resource r as s resource s as t resource t resource u as t");
        due(0, COUNTER + "event e event f task t priority 1 waits f,e alarm a on c sets t e");
    }

    private static void full() {
        due(6, Check.items(8, "mode", "") + "mode ^nine");
        due(6, Check.items(32, "event", "") + "event ^more");
        due(6, Check.items(31, "resource", "") + "resource ^more internal");
        due(6, Check.items(16, "counter", " max 1 base 1 least 1") + "counter ^more max 0 base 0 least 0");
        due(6, Check.items(48, "task", " priority 1") + "task ^more priority 99");
        due(6, Check.items(16, "isr", " level 1") + "isr ^more level 99");
        due(6, COUNTER + Check.items(48, "alarm", " on c calls") + "alarm ^more on x calls");
        due(2, Check.items(8, "mode", "") + "mode ^aaz");
        due(6, Check.items(8, "mode", "") + "mode ^nine mode nine");
        due(3, "task t priority 1 auto ^nought " + Check.items(8, "mode", "") + "mode nine");
        due(6, "task t priority 1 auto nine " + Check.items(8, "mode", "") + "mode ^nine");
    }

    private static void fullHolds() {
        due(0, Check.items(8, "mode", ""));
        due(0, Check.items(32, "event", ""));
        due(0, Check.items(31, "resource", ""));
        due(0, Check.items(16, "counter", " max 1 base 1 least 1"));
        due(0, Check.items(48, "task", " priority 1"));
        due(0, Check.items(16, "isr", " level 1"));
        due(0, COUNTER + Check.items(48, "alarm", " on c calls"));
    }

    private static void firstAlongTheText() {
        due(4, "task t priority ^64 uses x mode a mode a");
        due(3, "task t priority 63 uses ^x limit 9 mode a mode a");
        due(2, "mode a mode ^a task t priority 64");
        due(5, "event e task t priority 1 limit ^2 waits x,x,e");
        due(3, "event e task t priority 1 limit 1 waits ^x,x,e");
    }

    private static void meaningsReachForward() {
        due(0, "alarm a on c sets t e auto m in 3 task t priority 1 waits e auto m uses r isr i level 1 uses s"
                + " resource s as r resource r event e mode m " + COUNTER);
        due(3, "task t priority 1 uses ^x mode x resource x");
        due(2, "resource x mode ^x task t priority 1 uses x");
    }

    private static void longTexts() {
        due(1, "^" + ",".repeat(4000));
        due(1, "mode a" + " ".repeat(3993) + "^!");
        due(0, "mode a" + "\n".repeat(3994));
        due(0, "mode a#" + "!".repeat(3993));
        due(1, "mode ^" + "a".repeat(3995));
        due(4, "task t priority 1 limit ^" + "0".repeat(3900));
        due(3, "task t priority 1 waits ^a" + ",a".repeat(1900));
        due(2, "event a task t priority 1 waits a,^a" + ",a".repeat(1900));
    }
}
