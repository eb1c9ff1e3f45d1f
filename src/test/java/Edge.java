import java.io.IOException;
import java.nio.file.Files;
import java.nio.file.Path;
import java.util.ArrayList;
import java.util.List;
import java.util.Map;
import java.util.TreeMap;

/**
 * A sentence of the document that names a boundary case, with the test that is its own: where it
 * stands ("section 1" to "section 6", "promise 1" to "promise 38", "head"), its words, and the calls
 * at the boundary and beyond it.
 */
final class Edge {
    /** Numbers that are no thing's, whatever the PLAN. */
    static final int[] NO_NUMBERS = {-1, -2, 64, 100, Integer.MIN_VALUE, Integer.MAX_VALUE};

    /** The words of the document by where they stand; empty, if it could not be read. */
    private static final Map<String, String> DOCUMENT = new TreeMap<>();
    private static final Map<String, List<String>> TOLD = new TreeMap<>();
    private static int edges = 0;

    private Edge() {
    }

    /** A call with one number. */
    interface Asked {
        long with(int number);
    }

    static void of(String where, String sentence, Check.Call test) {
        Check.about(where + ", \"" + sentence + "\"");
        edges++;
        TOLD.computeIfAbsent(where, one -> new ArrayList<>()).add(sentence);
        if (!DOCUMENT.isEmpty() && !DOCUMENT.getOrDefault(where, "").contains(sentence)) {
            Check.wrong("the document does not say so there");
        }
        int before = Check.made();
        try {
            test.run();
        } catch (RuntimeException thrown) {
            Check.wrong("threw " + thrown);
        }
        if (Check.made() == before) {
            Check.wrong("nothing was checked");
        }
        Check.about("");
    }

    /** The same answer is due for each of the numbers. */
    static void each(String what, long due, Asked call, int... numbers) {
        for (int number : numbers) {
            Check.same(what + " " + number, call.with(number), due);
        }
    }

    /** NoSuchElementException is due for each of the numbers. */
    static void missing(String what, Asked call, int... numbers) {
        for (int number : numbers) {
            Check.missing(what + " " + number, () -> call.with(number));
        }
    }

    /** All that can be seen of a kernel but its NOTES, in rows of text. */
    static String seen(StaticKernel kernel) {
        StringBuilder text = new StringBuilder();
        add(text, "counts", 6, kernel::count);
        text.append("at work ").append(kernel.atWork()).append(", running ").append(kernel.running()).append('\n');
        for (int t = 0; t < kernel.many(4); t++) {
            int one = t;
            add(text, "task " + t, 7, what -> kernel.task(one, what));
            add(text, "bits " + t, 3, what -> kernel.bits(one, what));
        }
        for (int r = 0; r < kernel.many(2); r++) {
            int one = r;
            add(text, "resource " + r, 4, what -> kernel.resource(one, what));
        }
        for (int i = 0; i < kernel.many(5); i++) {
            int one = i;
            add(text, "isr " + i, 3, what -> kernel.isr(one, what));
        }
        for (int c = 0; c < kernel.many(3); c++) {
            int one = c;
            add(text, "counter " + c, 6, what -> kernel.counter(one, what));
        }
        for (int a = 0; a < kernel.many(6); a++) {
            int one = a;
            add(text, "alarm " + a, 5, what -> kernel.alarm(one, what));
        }
        addRows(text, kernel);
        return text.toString();
    }

    private static void add(StringBuilder text, String what, int answers, Asked call) {
        text.append(what).append(':');
        for (int i = 0; i < answers; i++) {
            text.append(' ').append(call.with(i));
        }
        text.append('\n');
    }

    private static void addRows(StringBuilder text, StaticKernel kernel) {
        for (int p = 0; p < 64; p++) {
            for (int i = 0; kernel.row(p, i) != StaticKernel.NONE; i++) {
                text.append("row ").append(p).append(": ").append(kernel.row(p, i)).append('\n');
            }
        }
    }

    /** The tasks of a ROW, the first one first, and none behind them. */
    static void row(StaticKernel kernel, int p, int... due) {
        for (int i = 0; i < due.length; i++) {
            Check.same("row " + p + ", " + i, kernel.row(p, i), due[i]);
        }
        Check.same("row " + p + ", behind its end", kernel.row(p, due.length), StaticKernel.NONE);
    }

    // ---- the document

    static void readDocument(Path file) throws IOException {
        String text = Files.readString(file).replace("```text", " ").replace("```java", " ").replace("```", " ");
        String where = "head";
        for (String piece : text.split("(?=\n==== [1-6]\\.)|(?=\n## )")) {
            if (piece.startsWith("\n==== ")) {
                where = "section " + piece.charAt(6);
            } else if (piece.startsWith("\n## Promise ")) {
                where = "promise " + piece.substring(12, piece.indexOf(':'));
            } else if (piece.startsWith("\n## Not promised")) {
                where = "end";
            }
            DOCUMENT.merge(where, piece.replaceAll("\\s+", " "), String::concat);
        }
    }

    /** Every section and every promise must have an edge. */
    static void checkAllTold() {
        for (int section = 1; section <= 6; section++) {
            Check.yes("an edge of section " + section, TOLD.containsKey("section " + section));
        }
        for (int promise = 1; promise <= 38; promise++) {
            Check.yes("an edge of promise " + promise, TOLD.containsKey("promise " + promise));
        }
        System.out.println(edges + " sentences with a test of their own");
    }

    /** What of the document no edge has, for whoever looks for one that is missing. */
    static void showUntold() {
        for (Map.Entry<String, String> one : DOCUMENT.entrySet()) {
            String rest = one.getValue();
            for (String sentence : TOLD.getOrDefault(one.getKey(), List.of())) {
                rest = rest.replace(sentence, " ~ ");
            }
            System.out.println(one.getKey() + ": " + rest);
        }
    }
}
