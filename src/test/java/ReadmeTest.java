import java.io.IOException;
import java.net.URL;
import java.net.URLClassLoader;
import java.nio.file.Files;
import java.nio.file.Path;
import java.util.ArrayList;
import java.util.List;
import java.util.regex.Matcher;
import java.util.regex.Pattern;
import javax.tools.ToolProvider;

/**
 * What README.md shows of the class's use: its Java is compiled and run, with the text that it shows
 * as the PLAN, and each call must answer what stands behind it.
 */
final class ReadmeTest {
    private static final String NEW_OBJECT = "StaticKernel kernel = new StaticKernel();";
    private static final Pattern BLOCK = Pattern.compile("(?s)```(\\w+)\n(.*?)```");
    private static final Pattern CALL = Pattern.compile("(kernel\\..*);\\s+// (?:throws (\\w+)|(-?\\w+)(?::.*)?)");
    /** Not Check itself: what another loader loads can't see it. */
    private static final String BEGIN = "import java.util.*;\n"
            + "public final class Shown {\n"
            + "public static final List<String> CALLS = new ArrayList<>();\n"
            + "public static final List<Long> GOT = new ArrayList<>();\n"
            + "public static final List<Long> DUE = new ArrayList<>();\n"
            + "static final int NONE = StaticKernel.NONE;\n"
            + "static void due(String call, long got, long due) { CALLS.add(call); GOT.add(got); DUE.add(due); }\n";

    private static final StringBuilder methods = new StringBuilder();
    private static final StringBuilder runs = new StringBuilder();
    private static String plan = "";
    private static int calls = 0;

    public static void main(String[] args) throws IOException, ReflectiveOperationException {
        String readme = Files.readString(Path.of(System.getProperty("readme", "README.md")));
        Matcher block = BLOCK.matcher(readme);
        while (block.find()) {
            takeBlock(block.group(1), block.group(2));
        }
        Check.yes("README.md shows a PLAN", !plan.isEmpty());
        Check.yes("README.md shows calls", calls > 0);
        for (String one : List.of("Dsource", "Dreadme", "Ddocument", ".ci/run", "../shared/tests")) {
            Check.yes("README.md says " + one, readme.contains(one));
        }
        allTestsAreTold(readme);
        run();
        Check.end("ReadmeTest");
    }

    private static void takeBlock(String language, String text) {
        if (language.equals("text")) {
            plan = text;
        } else if (language.equals("java") && text.startsWith("static ")) {
            methods.append(text);
        } else if (language.equals("java")) {
            runs.append("{\n");
            for (String line : text.split("\n")) {
                runs.append(checked(line)).append('\n');
            }
            runs.append("}\n");
        }
    }

    /** A line that calls, as one that also compares. */
    private static String checked(String line) {
        if (line.equals(NEW_OBJECT)) {
            return line;
        }
        Matcher call = CALL.matcher(line);
        if (!call.matches()) {
            Check.wrong("no call with its answer: " + line);
            return "";
        }
        calls++;
        String shown = "\"" + call.group(1).replace("\"", "\\\"") + "\"";
        if (call.group(2) == null) {
            return "due(" + shown + ", " + call.group(1) + ", " + call.group(3) + ");";
        }
        return "try { " + call.group(1) + "; due(" + shown + ", 0, 1); } catch (" + call.group(2) + " thrown) { due("
                + shown + ", 1, 1); }";
    }

    /** Whoever adds a test tells of it. */
    private static void allTestsAreTold(String readme) throws IOException {
        Path tests = Path.of(System.getProperty("readme", "README.md")).toAbsolutePath().resolveSibling("src/test/java");
        List<Path> files = new ArrayList<>();
        try (var all = Files.newDirectoryStream(tests, "*Test.java")) {
            all.forEach(files::add);
        }
        for (Path file : files) {
            String name = file.getFileName().toString().replace(".java", "");
            Check.yes("README.md tells of " + name, readme.contains("`" + name + "`"));
        }
    }

    private static void run() throws IOException, ReflectiveOperationException {
        Path folder = Files.createTempDirectory("readme");
        Path source = folder.resolve("Shown.java");
        Path compiled = folder.resolve("Shown.class");
        Files.writeString(source, BEGIN + methods + "public static void run(String plan) {\n" + runs + "}\n}\n");
        int status = ToolProvider.getSystemJavaCompiler().run(null, null, null, "-cp",
                System.getProperty("java.class.path"), "-d", folder.toString(), source.toString());
        Check.same("compiling what README.md shows", status, 0);
        if (status == 0) {
            compare(folder);
        }
        Files.deleteIfExists(compiled);
        Files.deleteIfExists(source);
        Files.deleteIfExists(folder);
    }

    private static void compare(Path folder) throws IOException, ReflectiveOperationException {
        try (URLClassLoader loader = new URLClassLoader(new URL[] {folder.toUri().toURL()})) {
            Class<?> shown = loader.loadClass("Shown");
            shown.getMethod("run", String.class).invoke(null, plan);
            List<?> names = (List<?>) shown.getField("CALLS").get(null);
            List<?> got = (List<?>) shown.getField("GOT").get(null);
            List<?> due = (List<?>) shown.getField("DUE").get(null);
            for (int i = 0; i < names.size(); i++) {
                Check.same("README.md: " + names.get(i), (Long) got.get(i), (Long) due.get(i));
            }
            Check.same("calls that were made", names.size(), calls);
        }
    }
}
