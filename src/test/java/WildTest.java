import java.lang.reflect.InvocationTargetException;
import java.lang.reflect.Method;
import java.lang.reflect.Modifier;
import java.util.ArrayList;
import java.util.Comparator;
import java.util.List;
import java.util.NoSuchElementException;
import java.util.Set;

/** Any call with any numbers, in any state: nothing is thrown but what the document says. */
final class WildTest {
    private static final int RUNS = 400;
    private static final int CALLS = 512;
    private static final Dice DICE = new Dice(7L);
    private static final Set<String> MAY_THROW = Set.of("name", "task", "bits", "resource", "isr", "counter", "alarm", "note");
    private static final int[] WILD = {Integer.MIN_VALUE, Integer.MIN_VALUE + 1, -1000, -2, 64, 99, 100, 512, 1000, 1001,
        4000, 65535, 65536, Integer.MAX_VALUE - 1, Integer.MAX_VALUE};
    /** Something of every SORT, in most of its forms. */
    static final String PLAN = "mode m mode n event e event f resource r resource s as r resource q internal"
            + " counter c max 3 base 2 least 1 counter d max 65535 base 1 least 9"
            + " task t priority 3 auto m uses r,q limit 8 task u priority 9 uses q waits e,f auto n"
            + " task v priority 3 whole auto m,n limit 3 task w priority 63 uses s"
            + " isr i level 1 uses r isr j level 16 isr k level 16 uses s"
            + " alarm a on c starts t auto m,n in 1 every 1 alarm b on c sets u f auto m in 3 every 2 alarm x on d calls";

    public static void main(String[] args) throws IllegalAccessException {
        List<Method> calls = new ArrayList<>();
        for (Method method : StaticKernel.class.getDeclaredMethods()) {
            if (Modifier.isPublic(method.getModifiers())) {
                calls.add(method);
            }
        }
        calls.sort(Comparator.comparing(Method::getName));
        for (int run = 0; run < RUNS; run++) {
            StaticKernel kernel = new StaticKernel();
            if (run % 10 != 0) {
                kernel.build(Check.feed(kernel, PLAN));
            }
            for (int n = 0; n < CALLS - 30; n++) {
                Method call = calls.get(DICE.roll(calls.size()));
                boolean isCommon = !call.getName().equals("halt") || DICE.chance(10);
                if (isCommon) {
                    callOnce(kernel, call);
                }
            }
            Check.same("count(7)", kernel.count(7), 0);
            Check.same("count(8)", kernel.count(8), 0);
        }
        Check.end("WildTest");
    }

    private static void callOnce(StaticKernel kernel, Method call) throws IllegalAccessException {
        Object[] numbers = new Object[call.getParameterCount()];
        for (int i = 0; i < numbers.length; i++) {
            numbers[i] = DICE.chance(85) ? DICE.roll(6) - 1 : WILD[DICE.roll(WILD.length)];
        }
        try {
            call.invoke(kernel, numbers);
        } catch (InvocationTargetException thrown) {
            boolean isDue = thrown.getCause().getClass() == NoSuchElementException.class && MAY_THROW.contains(call.getName());
            Check.yes(call.getName() + " threw " + thrown.getCause(), isDue);
        }
    }
}
