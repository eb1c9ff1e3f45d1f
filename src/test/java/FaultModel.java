import java.util.ArrayList;
import java.util.HashMap;
import java.util.LinkedHashSet;
import java.util.List;
import java.util.Map;
import java.util.Set;
import java.util.regex.Matcher;
import java.util.regex.Pattern;

/**
 * The FAULTS once more, by other means: a regular expression for the tokens and one for an ITEM,
 * and all FAULTS gathered, of which the first counts. FaultModelTest compares StaticKernel with it.
 */
final class FaultModel {
    private static final Set<String> WORDS = Set.of("mode", "event", "resource", "internal", "as", "counter", "max",
            "base", "least", "task", "priority", "isr", "level", "uses", "alarm", "on", "starts", "sets", "calls",
            "auto", "in", "every", "whole", "limit", "waits");
    private static final Pattern TOKEN = Pattern.compile("[a-z][a-z0-9_]*|[0-9]+(?![a-z_0-9])|,");
    private static final Pattern GAP = Pattern.compile("(?:[ \n]|#[^\n]*)*");
    private static final String NAMES = "n (?:, n )*";
    private static final Pattern PLAN = Pattern.compile("(?:mode n |event n |resource n (?:internal |as n )?"
            + "|counter n max d base d least d "
            + "|task n priority d (?:whole |limit d |auto " + NAMES + "|uses " + NAMES + "|waits " + NAMES + ")*"
            + "|isr n level d (?:uses " + NAMES + ")?"
            + "|alarm n on n (?:starts n |sets n n |calls )(?:auto " + NAMES + "in d (?:every d )?)?)*");
    private static final List<String> SORTS = List.of("mode", "event", "resource", "counter", "task", "isr", "alarm");
    private static final int[] MOST = {8, 32, 31, 16, 48, 16, 48};

    static final class Token {
        String text;
        int place;
        /** n a NAME, d a NUMBER, else the token itself. */
        String shape;
        Item item;
        /** The word behind which it stands, "told" for the NAME of an ITEM, "event of" behind sets. */
        String behind = "";
    }

    static final class Item {
        String sort;
        String name;
        List<Token> tokens = new ArrayList<>();

        Token first(String behind) {
            for (Token token : tokens) {
                if (token.behind.equals(behind) && !token.shape.equals(",")) {
                    return token;
                }
            }
            return null;
        }

        boolean says(String word) {
            for (Token token : tokens) {
                if (token.text.equals(word) && token.shape.equals(word)) {
                    return true;
                }
            }
            return false;
        }

        Set<String> names(String behind) {
            Set<String> found = new LinkedHashSet<>();
            for (Token token : tokens) {
                if (token.behind.equals(behind) && token.shape.equals("n")) {
                    found.add(token.text);
                }
            }
            return found;
        }

        int number(String behind) {
            return first(behind) == null ? 0 : Integer.parseInt(first(behind).text);
        }
    }

    int kind = 0;
    int place = -1;
    private final List<Token> tokens = new ArrayList<>();
    private final List<Item> items = new ArrayList<>();
    private final Map<String, Item> meaning = new HashMap<>();

    FaultModel(String text) {
        int bad = read(text);
        int wrong = firstWrong();
        if (wrong >= 0) {
            kind = 1;
            place = tokens.get(wrong).place;
        } else if (bad >= 0) {
            kind = 1;
            place = bad;
        } else if (!PLAN.matcher(shapes(tokens.size())).matches()) {
            kind = 1;
            place = text.length();
        } else {
            group();
            findFirst();
        }
    }

    /** Answers the place of what is no token, or -1. */
    private int read(String text) {
        Matcher gap = GAP.matcher(text);
        Matcher next = TOKEN.matcher(text);
        int at = 0;
        while (true) {
            gap.region(at, text.length());
            at = gap.lookingAt() ? gap.end() : at;
            if (at == text.length()) {
                return -1;
            }
            next.region(at, text.length());
            if (!next.lookingAt() || isTooGreat(next.group())) {
                return at;
            }
            Token token = new Token();
            token.text = next.group();
            token.place = at;
            char first = token.text.charAt(0);
            token.shape = first >= '0' && first <= '9' ? "d" : first == ',' || WORDS.contains(token.text) ? token.text : "n";
            tokens.add(token);
            at = next.end();
        }
    }

    private static boolean isTooGreat(String token) {
        char first = token.charAt(0);
        if (first >= '0' && first <= '9') {
            String bare = token.replaceFirst("^0+", "");
            return bare.length() > 5 || !bare.isEmpty() && Integer.parseInt(bare) > 65535;
        }
        return token.length() > 12;
    }

    private String shapes(int many) {
        StringBuilder text = new StringBuilder();
        for (int i = 0; i < many; i++) {
            text.append(tokens.get(i).shape).append(' ');
        }
        return text.toString();
    }

    /** The first token with which nothing goes on: what there is up to it is no beginning of a PLAN. */
    private int firstWrong() {
        for (int many = 1; many <= tokens.size(); many++) {
            Matcher matcher = PLAN.matcher(shapes(many));
            if (!matcher.matches() && !matcher.hitEnd()) {
                return many - 1;
            }
        }
        return -1;
    }

    private void group() {
        Item item = null;
        String behind = "";
        boolean first = false;
        for (Token token : tokens) {
            if (first) {
                item.name = token.text;
                token.behind = "told";
                first = false;
            } else if (SORTS.contains(token.text)) {
                item = new Item();
                item.sort = token.text;
                items.add(item);
                first = true;
                behind = "";
            } else if (WORDS.contains(token.text)) {
                behind = token.text;
            } else {
                token.behind = behind;
                behind = behind.equals("sets") ? "event of" : behind;
            }
            token.item = item;
            item.tokens.add(token);
        }
        for (Item one : items) {
            meaning.putIfAbsent(one.name, one);
        }
    }

    private void findFirst() {
        for (int i = 0; i < tokens.size() && kind == 0; i++) {
            Token token = tokens.get(i);
            boolean[] has = {false, false, isTwice(i), isUnknown(token), isOutOfRange(token), isAgainstRule(token),
                isTooMany(token)};
            for (int one = 2; one <= 6 && kind == 0; one++) {
                if (has[one]) {
                    kind = one;
                    place = token.place;
                }
            }
        }
    }

    private boolean isTwice(int i) {
        Token token = tokens.get(i);
        if (token.behind.equals("told")) {
            return meaning.get(token.text) != token.item;
        }
        boolean ahead = false;
        for (Token other : token.item.tokens) {
            if (other == token) {
                break;
            }
            ahead |= other.text.equals(token.text) && other.shape.equals(token.shape)
                    && other.behind.equals(token.behind);
        }
        boolean isPart = token.item.sort.equals("task")
                && List.of("whole", "limit", "auto", "uses", "waits").contains(token.text);
        boolean isListed = token.shape.equals("n") && List.of("auto", "uses", "waits").contains(token.behind);
        return ahead && (isPart || isListed);
    }

    private boolean isUnknown(Token token) {
        Map<String, String> wanted = Map.of("as", "resource", "uses", "resource", "on", "counter", "starts", "task",
                "sets", "task", "event of", "event", "auto", "mode", "waits", "event");
        if (!token.shape.equals("n") || token.behind.equals("told")) {
            return false;
        }
        Item meant = meaning.get(token.text);
        return meant == null || !meant.sort.equals(wanted.get(token.behind));
    }

    private boolean isOutOfRange(Token token) {
        if (!token.shape.equals("d")) {
            return false;
        }
        int value = Integer.parseInt(token.text);
        Token on = token.item.first("on");
        Item counter = on == null ? null : meaning.get(on.text);
        int max = counter == null ? 0 : counter.number("max");
        int least = counter == null ? 0 : counter.number("least");
        switch (token.behind) {
            case "priority":
                return value > 63;
            case "limit":
                return value < 1 || value > 8;
            case "max":
                return value == 0;
            case "base":
                return value < 1 || value > 1000;
            case "least":
                return value < 1 || value > token.item.number("max");
            case "level":
                return value < 1 || value > 16;
            case "in":
                return value < 1 || value > max;
            default:
                return value != 0 && (value < least || value > max);
        }
    }

    private boolean isInternal(String name) {
        return meaning.containsKey(name) && meaning.get(name).says("internal");
    }

    private boolean isAgainstRule(Token token) {
        if (token.shape.equals(",") || WORDS.contains(token.text)) {
            return false;
        }
        switch (token.behind) {
            case "limit":
                return Integer.parseInt(token.text) > 1 && token.item.says("waits");
            case "uses":
                return isInternal(token.text) && (token.item.sort.equals("isr") || internalsUpTo(token) > 1);
            case "as":
                return isInternal(token.text) || isEndless(token.text);
            case "event of":
                Item task = meaning.get(token.item.first("sets").text);
                return task == null || !task.names("waits").contains(token.text);
            default:
                return false;
        }
    }

    private int internalsUpTo(Token token) {
        int found = 0;
        for (Token other : token.item.tokens) {
            if (other.behind.equals("uses") && other.shape.equals("n") && isInternal(other.text)
                    && other.place <= token.place) {
                found++;
            }
        }
        return found;
    }

    private boolean isEndless(String name) {
        Set<String> seen = new LinkedHashSet<>();
        String here = name;
        while (seen.add(here)) {
            Item item = meaning.get(here);
            Token as = item == null ? null : item.first("as");
            if (as == null) {
                return false;
            }
            here = as.text;
        }
        return true;
    }

    private boolean isTooMany(Token token) {
        if (!token.behind.equals("told")) {
            return false;
        }
        int ahead = 0;
        for (Item item : items) {
            if (item == token.item) {
                break;
            }
            ahead += item.sort.equals(token.item.sort) ? 1 : 0;
        }
        return ahead >= MOST[SORTS.indexOf(token.item.sort)];
    }
}
