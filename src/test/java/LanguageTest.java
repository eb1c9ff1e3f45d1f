import java.io.IOException;
import java.nio.file.Files;
import java.nio.file.Path;
import java.util.List;
import java.util.regex.Matcher;
import java.util.regex.Pattern;

/** The rules of LANGUAGE.md that can be seen in the text of the program. */
final class LanguageTest {
    private static final List<String> FORBIDDEN = List.of("->", "::", "Exact\\(", "\\bfinally\\b", "\\bsynchronized\\b",
            "\\bassert\\b", "\\bpackage\\b", "\\bcatch\\b", "\\bstatic \\{", "\\bnull\\b", "\\bSystem\\b", "\\bdouble\\b",
            "\\bfloat\\b", "\\.ordinal\\(", "\\bhashCode\\b", "\\btoString\\b", "\\bwhile \\(true\\)",
            "\" \\+", "\\+ \"");

    public static void main(String[] args) throws IOException {
        String text = Files.readString(Path.of(System.getProperty("source")));
        String code = text.replaceAll("(?s)/\\*.*?\\*/", "").replaceAll("//[^\n]*", "");
        for (String one : FORBIDDEN) {
            Check.yes("no " + one, !Pattern.compile(one).matcher(code).find());
        }
        imports(code);
        exceptions(code);
        sizes(code);
        Check.end("LanguageTest");
    }

    private static void imports(String code) {
        Matcher matcher = Pattern.compile("(?m)^import ([^;]*);").matcher(code);
        while (matcher.find()) {
            Check.yes("import " + matcher.group(1), matcher.group(1).equals("java.util.NoSuchElementException"));
        }
        matcher = Pattern.compile("\\bMath\\.(\\w+)").matcher(code);
        while (matcher.find()) {
            Check.yes("Math." + matcher.group(1), List.of("min", "max").contains(matcher.group(1)));
        }
    }

    private static void exceptions(String code) {
        Matcher matcher = Pattern.compile("\\bthrow\\b([^;]*);").matcher(code);
        while (matcher.find()) {
            Check.yes("throw" + matcher.group(1), matcher.group(1).trim().equals("new NoSuchElementException()"));
        }
    }

    private static void sizes(String code) {
        Matcher matcher = Pattern.compile("\\b(class|enum|interface|record) [A-Z]").matcher(code);
        int classes = 0;
        while (matcher.find()) {
            classes++;
        }
        Check.yes("at most twelve classes: " + classes, classes <= 12);
        int begun = 0;
        int line = 0;
        boolean inside = false;
        for (String one : code.split("\n")) {
            line++;
            if (one.matches("( {4}| {8})(?! )[^=]*\\) (throws \\w+ )?\\{")) {
                begun = line;
                inside = true;
                Check.yes("at most seven parameters: " + one, one.split(",").length <= 7);
            } else if (inside && one.matches("( {4}| {8})\\}")) {
                Check.yes("at most sixty lines, at line " + begun, line - begun < 60);
                inside = false;
            }
        }
    }
}
