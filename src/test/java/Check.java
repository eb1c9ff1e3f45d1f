import java.nio.charset.StandardCharsets;
import java.util.NoSuchElementException;

/** What all tests share: comparing an answer with the one that is due, and making kernels of a text. */
final class Check {
    private static int passed = 0;
    private static int failed = 0;
    /** What the checks are about, told ahead of each that is not as due. */
    private static String about = "";

    private Check() {
    }

    /** A call that must throw. */
    interface Call {
        void run();
    }

    static void about(String sentence) {
        about = sentence.isEmpty() ? "" : sentence + " | ";
    }

    /** How many checks there were, as due or not. */
    static int made() {
        return passed + failed;
    }

    static void wrong(String what) {
        failed++;
        System.out.println(about + what);
    }

    static void same(String what, long got, long due) {
        if (got == due) {
            passed++;
        } else {
            wrong(what + ": answered " + got + ", due is " + due);
        }
    }

    static void same(String what, String got, String due) {
        if (got.equals(due)) {
            passed++;
        } else {
            wrong(what + ": it is\n" + got + "due is\n" + due);
        }
    }

    static void yes(String what, boolean got) {
        same(what, got ? 1 : 0, 1);
    }

    static void missing(String what, Call call) {
        String got = "nothing";
        try {
            call.run();
        } catch (NoSuchElementException thrown) {
            got = "NoSuchElementException";
        } catch (RuntimeException thrown) {
            got = thrown.getClass().getName();
        }
        if (got.equals("NoSuchElementException")) {
            passed++;
        } else {
            wrong(what + ": threw " + got + ", due is NoSuchElementException");
        }
    }

    /** Feeds a text, filled up with blanks, and answers its length. */
    static int feed(StaticKernel kernel, String text) {
        return feed(kernel, text.getBytes(StandardCharsets.ISO_8859_1));
    }

    static int feed(StaticKernel kernel, byte[] text) {
        for (int from = 0; from < text.length; from += 20) {
            boolean fed = kernel.feed(word(text, from), word(text, from + 4), word(text, from + 8),
                    word(text, from + 12), word(text, from + 16));
            if (!fed) {
                yes("feed at " + from, fed);
            }
        }
        return text.length;
    }

    private static int word(byte[] text, int from) {
        int word = 0;
        for (int i = from; i < from + 4; i++) {
            word = word << 8 | (i < text.length ? text[i] & 255 : ' ');
        }
        return word;
    }

    private static String shown(String text) {
        return text.length() > 300 ? text.substring(0, 300) + " .." : text;
    }

    /** A kernel, off, with the PLAN that a text tells. */
    static StaticKernel built(String text) {
        StaticKernel kernel = new StaticKernel();
        int length = feed(kernel, text);
        same("build of " + shown(text), kernel.build(length), 0);
        return kernel;
    }

    /** A kernel, on, in mode 0. */
    static StaticKernel started(String text) {
        StaticKernel kernel = built(text);
        same("start of " + shown(text), kernel.start(0), 0);
        return kernel;
    }

    /** A text with one ^ ahead of the byte at which a FAULT of a kind is due; kind 0, and no ^: without one. */
    static void fault(int kind, String marked) {
        int place = marked.indexOf('^');
        faultAt(kind, place, place < 0 ? marked : marked.substring(0, place) + marked.substring(place + 1));
    }

    static void faultAt(int kind, int place, String text) {
        StaticKernel kernel = new StaticKernel();
        int length = feed(kernel, text);
        String shown = text.length() > 200 ? ".. " + text.substring(text.length() - 200) : text;
        same(shown + " | build", kernel.build(length), kind == 0 ? 0 : -1);
        same(shown + " | kind", kernel.fault(0), kind);
        same(shown + " | place", kernel.fault(1), place);
    }

    /** So many ITEMS, each with a NAME of its own. */
    static String items(int many, String word, String end) {
        StringBuilder text = new StringBuilder();
        for (int i = 0; i < many; i++) {
            text.append(word).append(' ').append((char) ('a' + i / 26)).append((char) ('a' + i % 26)).append('z')
                    .append(end).append(' ');
        }
        return text.toString();
    }

    /** All NOTES that are kept since start(), the first one first. */
    static void notes(String what, StaticKernel kernel, int... due) {
        same(what + ": how many notes", kernel.count(6), due.length);
        for (int i = 0; i < due.length; i++) {
            int k = due.length - 1 - i;
            if (k < kernel.count(6)) {
                same(what + ": note " + i, kernel.note(k), due[i]);
            }
        }
    }

    static void latest(String what, StaticKernel kernel, int... due) {
        for (int i = 0; i < due.length; i++) {
            same(what + ": " + (due.length - i) + " from the end", kernel.note(due.length - 1 - i), due[i]);
        }
    }

    /** Ends the test, with exit code 1 if an answer was not the one due. */
    static void end(String name) {
        System.out.println(name + ": " + passed + " checks as due, " + failed + " not");
        if (failed > 0) {
            System.exit(1);
        }
    }
}
