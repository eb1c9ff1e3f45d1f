import java.lang.reflect.Constructor;
import java.lang.reflect.Field;
import java.lang.reflect.Method;
import java.lang.reflect.Modifier;
import java.util.Arrays;
import java.util.List;
import java.util.TreeSet;

/** The public face: what the document tells, and no more. */
final class FaceTest {
    private static final List<String> FACE = List.of(
            "boolean feed(int,int,int,int,int)", "int build(int)", "int fault(int)", "int many(int)",
            "long name(int,int,int)", "int start(int)", "int activate(int)", "int terminate()",
            "int chain(int)", "int schedule()", "int take(int)", "int give(int)", "int signal(int,int)",
            "int clear(int)", "int await(int)", "long given(int)", "int after(int,int,int)",
            "int at(int,int,int)", "int cancel(int)", "int left(int)", "int shut()", "int open()",
            "int leave()", "int halt(int)", "int tick(int,int)", "int call(int)", "int atWork()",
            "int running()", "int task(int,int)", "long bits(int,int)", "int resource(int,int)",
            "int isr(int,int)", "int counter(int,int)", "int alarm(int,int)", "int row(int,int)",
            "int note(int)", "int count(int)");

    public static void main(String[] args) {
        Class<?> kernel = StaticKernel.class;
        Check.yes("public and final", Modifier.isPublic(kernel.getModifiers())
                && Modifier.isFinal(kernel.getModifiers()));
        Check.same("NONE", StaticKernel.NONE, -1);
        checkMethods(kernel);
        checkRest(kernel);
        Check.end("FaceTest");
    }

    private static void checkMethods(Class<?> kernel) {
        TreeSet<String> due = new TreeSet<>(FACE);
        TreeSet<String> names = new TreeSet<>();
        for (String one : FACE) {
            names.add(one.substring(one.indexOf(' ') + 1, one.indexOf('(')));
        }
        for (Method method : kernel.getDeclaredMethods()) {
            if (Modifier.isPrivate(method.getModifiers())) {
                Check.yes("private " + method.getName(), !names.contains(method.getName()));
            } else if (!method.isSynthetic()) {
                Check.yes("told: " + written(method), due.remove(written(method)));
            }
        }
        Check.yes("there are no " + due, due.isEmpty());
    }

    private static String written(Method method) {
        String parameters = Arrays.toString(method.getParameterTypes());
        return method.getReturnType() + " " + method.getName() + "("
                + parameters.substring(1, parameters.length() - 1).replace(" ", "") + ")";
    }

    private static void checkRest(Class<?> kernel) {
        int visible = 0;
        for (Field field : kernel.getDeclaredFields()) {
            if (!Modifier.isPrivate(field.getModifiers()) && !field.isSynthetic()) {
                visible++;
            }
            boolean isStatic = Modifier.isStatic(field.getModifiers());
            Check.yes(field.getName() + " is final", !isStatic || Modifier.isFinal(field.getModifiers()));
        }
        Check.same("fields that can be seen", visible, 1);
        Constructor<?>[] constructors = kernel.getDeclaredConstructors();
        Check.same("constructors", constructors.length, 1);
        Check.same("its parameters", constructors[0].getParameterCount(), 0);
    }
}
