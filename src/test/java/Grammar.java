import java.util.ArrayDeque;
import java.util.ArrayList;
import java.util.Arrays;
import java.util.Deque;
import java.util.HashMap;
import java.util.HashSet;
import java.util.List;
import java.util.Map;
import java.util.Set;
import java.util.regex.Matcher;
import java.util.regex.Pattern;

/** The language of Terms I and IV once more: a row of what is due next, without recursion, that tells the first fault. */
final class Grammar {
    private static final int TOO_MANY_OPEN = 7;
    private static final Set<String> OWN = Set.of(("part air near aunt deaf says rival turns gale slip most least night"
        + " gales told number read first or and not all min max").split(" "));
    private static final Set<String> LEAVES = Set.of("air", "most", "least", "night", "gales");
    private static final Set<String> QUESTION_LEAVES = Set.of("told", "number", "aunt", "deaf");

    /** A word, a number, another sign, or the end (an empty text); glued, where it wants a blank ahead of it. */
    private record Piece(String text, int at, boolean glued) {
        boolean isWord() {
            return !glued && text.matches("[a-z]+");
        }

        boolean isNumber() {
            return !glued && text.matches("[0-9]+");
        }

        boolean is(String one) {
            return !glued && text.equals(one);
        }

        boolean isOneOf(String signs) {
            return !glued && text.length() == 1 && signs.contains(text);
        }
    }

    private final List<Piece> pieces = new ArrayList<>();
    private final Deque<String> due = new ArrayDeque<>();
    private final List<String> names = new ArrayList<>();
    private final Set<String> told = new HashSet<>();
    private final Map<String, Integer> counts = new HashMap<>();
    private String scope = "";
    private String given = "";
    private int next = 0;
    private int open = 0;

    int statements = 0;
    int fault = 0;
    int place = -1;

    private Grammar(String text) {
        Matcher cut = Pattern.compile("[a-z]+|[0-9]+|[^ \n]", Pattern.DOTALL).matcher(text);
        int behind = -1;
        while (cut.find()) {
            boolean solid = cut.group().matches("[a-z0-9]+");
            pieces.add(new Piece(cut.group(), cut.start(), solid && cut.start() == behind));
            behind = solid ? cut.end() : -1;
        }
        pieces.add(new Piece("", text.length(), false));
    }

    static Grammar city(String text) {
        Grammar reader = new Grammar(text);
        reader.read("CITY");
        return reader;
    }

    static Grammar question(String text) {
        Grammar reader = new Grammar(text);
        reader.scope = "question";
        reader.read("QUESTION");
        return reader;
    }

    private void read(String start) {
        due.push(start);
        while (fault == 0 && !due.isEmpty()) {
            step(due.pop());
        }
    }

    private Piece here() {
        return pieces.get(next);
    }

    private void fail(int kind, int at) {
        fault = kind;
        place = at;
    }

    private void failHere(int kind) {
        fail(kind, here().at());
    }

    /** What stands here is taken; then these are due, the first of them at once. */
    private void takeThen(String... then) {
        next++;
        follow(then);
    }

    private void follow(String... then) {
        for (int k = then.length - 1; k >= 0; k--) {
            due.push(then[k]);
        }
    }

    private void openThen(String... then) {
        if (open + 1 == TOO_MANY_OPEN) {
            failHere(4);
            return;
        }
        open++;
        takeThen(then);
    }

    private void step(String symbol) {
        switch (symbol) {
            case "CITY" -> city();
            case "QUESTION" -> question();
            case "END" -> expect("");
            case "NEW NAME" -> newName();
            case "ONE", "OTHER", "AUNT", "DEAF" -> knownName(symbol);
            case "AIR" -> number(0, 20);
            case "GALE" -> number(1, 20);
            case "SLIP" -> number(0, 100);
            case "SUM" -> follow("PRODUCT", "MORE SUM");
            case "MORE SUM" -> more("+-", "PRODUCT", symbol);
            case "PRODUCT" -> follow("PART", "MORE PRODUCT");
            case "MORE PRODUCT" -> more("*/", "PART", symbol);
            case "PART" -> part();
            case "TEST" -> follow("BOTH", "MORE TEST");
            case "MORE TEST" -> moreBehind("or", "BOTH", symbol);
            case "BOTH" -> follow("FACT", "MORE BOTH");
            case "MORE BOTH" -> moreBehind("and", "FACT", symbol);
            case "FACT" -> fact();
            case "SIGN" -> sign();
            case "OPEN" -> bracket();
            case "CLOSED" -> open--;
            default -> expect(symbol);
        }
    }

    private void city() {
        if (here().is("")) {
            return;
        }
        if (statements == 80) {
            failHere(5);
            return;
        }
        statements++;
        String kind = here().isWord() ? here().text() : "";
        int limit = kind.equals("part") ? 7 : kind.equals("near") ? 12 : Set.of("says", "rival", "turns").contains(kind) ? 1 : 80;
        scope = kind;
        List<String> rest = switch (kind) {
            case "part" -> List.of("NEW NAME", "air", "AIR");
            case "near" -> List.of("ONE", "OTHER");
            case "aunt" -> List.of("AUNT");
            case "deaf" -> List.of("DEAF");
            case "says", "rival", "turns" -> List.of("SUM");
            case "gale" -> List.of("GALE");
            case "slip" -> List.of("SLIP");
            default -> List.of();
        };
        if (rest.isEmpty()) {
            failHere(1);
        } else if (counts.merge(kind, 1, Integer::sum) > limit) {
            failHere(5);
        } else {
            follow(";", "CITY");
            takeThen(rest.toArray(new String[0]));
        }
    }

    private void question() {
        if (Arrays.asList("first", "last", "often").contains(here().text())) {
            takeThen("TEST", "END");
        } else if (Arrays.asList("total", "most", "least").contains(here().text())) {
            takeThen("SUM", "END");
        } else {
            failHere(1);
        }
    }

    private void expect(String text) {
        if (here().is(text)) {
            next++;
        } else {
            failHere(1);
        }
    }

    private boolean isName() {
        if (!here().isWord() || OWN.contains(here().text())) {
            failHere(1);
        } else if (here().text().length() > 6) {
            fail(1, here().at() + 6);
        }
        return fault == 0;
    }

    private void newName() {
        if (isName()) {
            if (names.contains(here().text())) {
                failHere(3);
            }
            names.add(here().text());
            next++;
        }
    }

    private void knownName(String use) {
        if (!isName()) {
            return;
        }
        String name = here().text();
        boolean fine = names.contains(name);
        if (use.equals("ONE")) {
            given = name;
        } else if (use.equals("OTHER")) {
            fine &= !name.equals(given) && told.add(given + " " + name) && told.add(name + " " + given);
        } else {
            fine &= told.add(use + " " + name);
        }
        if (!fine) {
            failHere(3);
        }
        next++;
    }

    private boolean isShort() {
        if (!here().isNumber()) {
            failHere(1);
        } else if (here().text().length() > 4) {
            fail(1, here().at() + 4);
        }
        return fault == 0;
    }

    private void number(int least, int most) {
        if (isShort()) {
            int value = Integer.parseInt(here().text());
            if (value < least || value > most) {
                failHere(2);
            }
            next++;
        }
    }

    private void more(String signs, String what, String again) {
        if (here().isOneOf(signs)) {
            takeThen(what, again);
        }
    }

    private void moreBehind(String word, String what, String again) {
        if (here().is(word)) {
            takeThen(what, again);
        }
    }

    private void bracket() {
        if (here().is("(")) {
            openThen();
        } else {
            failHere(1);
        }
    }

    private void part() {
        boolean asks = scope.equals("question");
        String text = here().glued() ? "" : here().text();
        if (here().isNumber()) {
            if (isShort()) {
                next++;
            }
        } else if (text.equals("(")) {
            openThen("SUM", ")", "CLOSED");
        } else if (text.equals("min") || text.equals("max")) {
            takeThen("OPEN", "SUM", ",", "SUM", ")", "CLOSED");
        } else if (text.equals("near") && asks) {
            openThen("PART", "CLOSED");
        } else if (LEAVES.contains(text) || asks && QUESTION_LEAVES.contains(text) || scope.equals("turns") && text.equals("told")) {
            next++;
        } else {
            failHere(1);
        }
    }

    private void fact() {
        if (here().is("not")) {
            openThen("FACT", "CLOSED");
        } else if (here().is("[")) {
            openThen("TEST", "]", "CLOSED");
        } else if (here().is("all")) {
            next++;
        } else {
            follow("SUM", "SIGN", "SUM");
        }
    }

    private void sign() {
        if (here().isOneOf("<>=")) {
            next++;
        } else {
            failHere(1);
        }
    }
}
