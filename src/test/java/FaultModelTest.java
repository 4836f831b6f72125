import java.util.ArrayList;
import java.util.Collections;
import java.util.List;
import java.util.Random;
import java.util.regex.Matcher;
import java.util.regex.Pattern;

/** Promises 4, 5 and 29: texts by chance, spoilt here and there, read by the class and by the plain second reader. */
public final class FaultModelTest {
    private static final int TEXTS = 30000;
    private static final int TAPE = 1600;
    private static final Pattern PIECE = Pattern.compile("[a-z]+|[0-9]+|[ \n]+|.", Pattern.DOTALL);
    private static final String[] SCRAPS = {
        "part", "air", "near", "aunt", "deaf", "says", "rival", "turns", "gale", "slip", "most", "least", "night", "gales",
        "told", "number", "read", "first", "or", "and", "not", "all", "min", "max", "last", "often", "total", "a", "b",
        "abcdef", "abcdefg", "numbers", "0", "1", "20", "21", "100", "101", "0000", "9999", "00000", "12345", "(", ")", "[",
        "]", ",", ";", "+", "-", "*", "/", "<", ">", "=", "((((((", "[[[", " not not not ", " near near ", "min(", "max(",
        "#", "A", "\t", "\r", "\u00e4", "\u0000", "part c air 3;", "near a b;", "says 1;", "turns told;", "gale 3;"
    };

    private final Check c = new Check("FaultModelTest");
    private final Random random = new Random(4);
    private final Sentences sentences = new Sentences(random);
    private final int[] found = new int[6];

    public static void main(String[] args) {
        FaultModelTest test = new FaultModelTest();
        for (int k = 0; k < TEXTS; k++) {
            test.tryCity(test.spoilt(test.cityText()));
            test.tryQuestion(test.spoilt(test.questionText()));
        }
        for (int fault = 0; fault < test.found.length; fault++) {
            test.c.due("fault " + fault + " came often", test.found[fault] > 300, true);
        }
        test.c.finish();
    }

    private String blank() {
        return random.nextInt(4) == 0 ? "\n " : " ";
    }

    private String anyName() {
        return String.valueOf((char) ('a' + random.nextInt(random.nextInt(3) == 0 ? 8 : 3)));
    }

    /** A city that is near to a good one: a name may be there already, or be none, or the kinds too many. */
    private String cityText() {
        List<String> rows = new ArrayList<>();
        int parts = random.nextInt(8) + (random.nextInt(12) == 0 ? 1 : 0);
        for (int p = 0; p < parts; p++) {
            rows.add("part" + blank() + (char) ('a' + p) + blank() + "air" + blank() + random.nextInt(21));
        }
        List<String> others = new ArrayList<>();
        for (int one = 0; one < parts; one++) {
            for (int other = 0; other < one; other++) {
                if (random.nextInt(4) == 0 || parts > 6 && random.nextInt(3) > 0) {
                    others.add("near " + (char) ('a' + one) + blank() + (char) ('a' + other));
                }
            }
            if (random.nextInt(3) == 0) {
                others.add((random.nextBoolean() ? "aunt" : "deaf") + blank() + (char) ('a' + one));
            }
        }
        others.add("says " + wrapped("(", sentences.sum(Sentences.SAYS, 1).text(), ")"));
        others.add("turns " + sentences.sum(Sentences.TURNS, 1).text());
        others.add((random.nextBoolean() ? "gale " : "slip ") + random.nextInt(random.nextInt(5) == 0 ? 110 : 21));
        if (random.nextInt(3) == 0) {
            others.add((random.nextBoolean() ? "aunt " : "near " + anyName() + " ") + anyName());
        }
        if (random.nextInt(20) == 0) {
            others.addAll(Collections.nCopies(65 + random.nextInt(15), "slip 7"));
        }
        Collections.shuffle(others, random);
        rows.addAll(others);
        return String.join(";", rows) + ";" + blank();
    }

    private String questionText() {
        String[] tests = {"first", "last", "often"};
        String[] sums = {"total", "most", "least"};
        int open = random.nextInt(4);
        if (random.nextBoolean()) {
            return sums[random.nextInt(3)] + blank() + wrapped("(", sentences.sum(Sentences.QUESTION, open).text(), ")");
        }
        String test = wrapped("[", sentences.test(open).text(), "]");
        return tests[random.nextInt(3)] + blank() + wrapped("not ", test, "");
    }

    /** Mostly as it is, but some so deep that one sign more, or a few, may be too many. */
    private String wrapped(String head, String text, String tail) {
        int times = random.nextInt(3) == 0 ? random.nextInt(7) : 0;
        return head.repeat(times) + text + tail.repeat(times);
    }

    private String spoilt(String text) {
        String worse = text;
        for (int k = random.nextInt(3); k > 0; k--) {
            worse = random.nextInt(3) == 0 ? spoilByte(worse) : spoilPiece(worse);
        }
        return worse;
    }

    private String spoilByte(String text) {
        int at = random.nextInt(text.length() + 1);
        String head = text.substring(0, at);
        switch (text.isEmpty() ? 3 : random.nextInt(4)) {
            case 0:
                return head;
            case 1:
                return head + text.substring(Math.min(at + 1, text.length()));
            case 2:
                return head + text.charAt(random.nextInt(text.length())) + text.substring(at);
            default:
                return head + (char) random.nextInt(256) + text.substring(at);
        }
    }

    private String spoilPiece(String text) {
        List<String> pieces = new ArrayList<>();
        Matcher cut = PIECE.matcher(text);
        while (cut.find()) {
            pieces.add(cut.group());
        }
        if (pieces.isEmpty()) {
            return SCRAPS[random.nextInt(SCRAPS.length)];
        }
        int at = random.nextInt(pieces.size());
        switch (random.nextInt(4)) {
            case 0:
                pieces.remove(at);
                break;
            case 1:
                pieces.add(at, SCRAPS[random.nextInt(SCRAPS.length)]);
                break;
            case 2:
                pieces.set(at, SCRAPS[random.nextInt(SCRAPS.length)]);
                break;
            default:
                pieces.add(at, pieces.get(random.nextInt(pieces.size())));
                break;
        }
        return String.join("", pieces);
    }

    private void tryCity(String text) {
        if (text.length() > TAPE) {
            return;
        }
        Grammar due = Grammar.city(text);
        NightForecast x = new NightForecast();
        Check.tell(x, text);
        c.due("city() of " + text, x.city(), due.fault == 0 ? due.statements : Check.NONE);
        tellsFault(x, due, text);
    }

    private void tryQuestion(String text) {
        if (text.length() > TAPE) {
            return;
        }
        Grammar due = Grammar.question(text);
        NightForecast x = new NightForecast();
        Check.tell(x, text);
        c.due("ask() of " + text + " is refused", x.ask() == NightForecast.NOTHING, due.fault != 0);
        tellsFault(x, due, text);
    }

    private void tellsFault(NightForecast x, Grammar due, String text) {
        c.due("fault(0) of " + text, x.fault(0), due.fault);
        c.due("fault(1) of " + text, x.fault(1), due.place);
        found[due.fault]++;
    }
}
