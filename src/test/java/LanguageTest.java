import java.io.IOException;
import java.lang.reflect.Field;
import java.lang.reflect.Method;
import java.lang.reflect.Modifier;
import java.nio.file.Files;
import java.nio.file.Path;
import java.util.List;
import java.util.regex.Matcher;
import java.util.regex.Pattern;

/** The rules of LANGUAGE.md that can be seen in the text of the program, or in its classes. */
final class LanguageTest {
    private static final List<String> FORBIDDEN = List.of("->", "::", "Exact\\(", "\\bfinally\\b", "\\bsynchronized\\b",
            "\\bassert\\b", "\\bpackage\\b", "\\bcatch\\b", "\\bstatic \\{", "\\bnull\\b", "\\bSystem\\b", "\\bdouble\\b",
            "\\bfloat\\b", "\\.ordinal\\(", "\\bhashCode\\b", "\\btoString\\b", "\\bwhile \\(true\\)",
            "\" \\+", "\\+ \"");

    public static void main(String[] args) throws IOException {
        String text = Files.readString(Path.of(System.getProperty("source")));
        String code = text.replaceAll("(?s)/\\*.*?\\*/", "").replaceAll("//[^\n]*", "");
        for (String one : FORBIDDEN) {
            Check.yes("no " + one, !Pattern.compile(one).matcher(code).find());
        }
        imports(code);
        exceptions(code);
        sizes(code);
        classes();
        Check.end("LanguageTest");
    }

    private static void imports(String code) {
        Matcher matcher = Pattern.compile("(?m)^import ([^;]*);").matcher(code);
        while (matcher.find()) {
            Check.yes("import " + matcher.group(1), matcher.group(1).equals("java.util.NoSuchElementException"));
        }
        matcher = Pattern.compile("\\bMath\\.(\\w+)").matcher(code);
        while (matcher.find()) {
            Check.yes("Math." + matcher.group(1), List.of("min", "max").contains(matcher.group(1)));
        }
    }

    private static void exceptions(String code) {
        Matcher matcher = Pattern.compile("\\bthrow\\b([^;]*);").matcher(code);
        while (matcher.find()) {
            Check.yes("throw" + matcher.group(1), matcher.group(1).trim().equals("new NoSuchElementException()"));
        }
    }

    private static void sizes(String code) {
        Matcher matcher = Pattern.compile("\\b(class|enum|interface|record) [A-Z]").matcher(code);
        int classes = 0;
        while (matcher.find()) {
            classes++;
        }
        Check.yes("at most twelve classes: " + classes, classes <= 12);
        int begun = 0;
        int line = 0;
        boolean inside = false;
        for (String one : code.split("\n")) {
            line++;
            if (one.matches("( {4}| {8})(?! )[^=]*\\) (throws \\w+ )?\\{")) {
                begun = line;
                inside = true;
                Check.yes("at most seven parameters: " + one, one.split(",").length <= 7);
            } else if (inside && one.matches("( {4}| {8})\\}")) {
                Check.yes("at most sixty lines, at line " + begun, line - begun < 60);
                inside = false;
            }
        }
    }

    private static void classes() {
        checkFields(StaticKernel.class);
        for (Class<?> one : StaticKernel.class.getDeclaredClasses()) {
            int modifiers = one.getModifiers();
            Check.yes(one + " is static, and not seen from outside",
                    Modifier.isStatic(modifiers) && !Modifier.isPublic(modifiers) && !Modifier.isProtected(modifiers));
            checkFields(one);
            for (Method method : one.getDeclaredMethods()) {
                Check.yes(method + " has at most seven parameters", method.getParameterCount() <= 7);
            }
        }
    }

    private static void checkFields(Class<?> one) {
        int fields = 0;
        for (Field field : one.getDeclaredFields()) {
            boolean isStatic = Modifier.isStatic(field.getModifiers());
            if (field.isSynthetic()) {
                continue;
            }
            fields += isStatic ? 0 : 1;
            Check.yes(field + " is final, if it is static", !isStatic || Modifier.isFinal(field.getModifiers()));
            Check.yes(field + " has a type that is allowed", isStatic ? isConstant(field) : isType(field.getType()));
            boolean isOfEnum = one.isEnum() && !isStatic;
            Check.yes(field + " may be an enum's", !isOfEnum || List.of(int.class, long.class, boolean.class, String.class)
                    .contains(field.getType()));
        }
        Check.yes(one + " has at most twenty fields: " + fields, fields <= 20);
    }

    /** A number, a text, a row of numbers, an enum's constant, or all of these. */
    private static boolean isConstant(Field field) {
        Class<?> type = field.getType();
        Class<?> part = type.isArray() ? type.getComponentType() : type;
        return field.isEnumConstant() || type == String.class || part.isEnum() && type.isArray()
                || List.of(int.class, long.class, char.class).contains(part) || type == boolean.class || part == byte.class;
    }

    private static boolean isType(Class<?> type) {
        if (!type.isArray()) {
            return type.isPrimitive() || type == String.class || isOwn(type);
        }
        Class<?> part = type.getComponentType();
        return part.isPrimitive() || isOwn(part)
                || part.isArray() && part.getComponentType().isPrimitive() && part.getComponentType() != boolean.class;
    }

    private static boolean isOwn(Class<?> type) {
        return type.getNestHost() == StaticKernel.class;
    }
}
