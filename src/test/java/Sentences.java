import java.util.Random;

/** Sums and tests by chance: a text, and the same as a value. */
final class Sentences {
    /** A text with what it is worth. */
    record Sentence(String text, Naive.Value value) {
    }

    static final int SAYS = 0;
    static final int TURNS = 1;
    static final int QUESTION = 2;

    private final Random random;

    Sentences(Random random) {
        this.random = random;
    }

    private String blank() {
        int k = random.nextInt(8);
        return k == 0 ? " " : k == 1 ? "\n" : k == 2 ? "  " : "";
    }

    private static int limit(long value) {
        return value > 1000000 ? 1000000 : value < -1000000 ? -1000000 : (int) value;
    }

    private static int divide(int a, int b) {
        return b == 0 ? 0 : (int) Math.floor((double) a / b);
    }

    /** A sum in which at most so many signs are open at once. */
    Sentence sum(int scope, int open) {
        Sentence left = product(scope, open);
        for (int k = random.nextInt(3); k > 0; k--) {
            boolean plus = random.nextBoolean();
            Naive.Value a = left.value();
            Sentence right = product(scope, open);
            Naive.Value b = right.value();
            String text = left.text() + blank() + (plus ? "+" : "-") + blank() + right.text();
            left = new Sentence(text, (w, p) -> limit((long) a.of(w, p) + (plus ? b.of(w, p) : -b.of(w, p))));
        }
        return left;
    }

    private Sentence product(int scope, int open) {
        Sentence left = factor(scope, open);
        while (random.nextInt(3) == 0) {
            boolean times = random.nextBoolean();
            Naive.Value a = left.value();
            Sentence right = factor(scope, open);
            Naive.Value b = right.value();
            String text = left.text() + blank() + (times ? "*" : "/") + blank() + right.text();
            left = new Sentence(text, (w, p) ->
                times ? limit((long) a.of(w, p) * b.of(w, p)) : divide(a.of(w, p), b.of(w, p)));
        }
        return left;
    }

    private Sentence factor(int scope, int open) {
        int kind = random.nextInt(open > 0 ? 12 : 8);
        if (kind >= 10 && scope == QUESTION) {
            Sentence inner = factor(scope, open - 1);
            Naive.Value a = inner.value();
            return new Sentence("near " + inner.text(), (w, p) -> {
                int q = a.of(w, p);
                return q >= 0 && q < w.parts && w.near[p][q] ? 1 : 0;
            });
        }
        if (kind >= 10) {
            Sentence inner = sum(scope, open - 1);
            return new Sentence("(" + blank() + inner.text() + blank() + ")", inner.value());
        }
        if (kind >= 8) {
            Sentence one = sum(scope, open - 1);
            Sentence two = sum(scope, open - 1);
            Naive.Value a = one.value();
            Naive.Value b = two.value();
            String inside = blank() + "(" + blank() + one.text() + "," + blank() + two.text() + blank() + ")";
            return kind == 8
                ? new Sentence("min" + inside, (w, p) -> Math.min(a.of(w, p), b.of(w, p)))
                : new Sentence("max" + inside, (w, p) -> Math.max(a.of(w, p), b.of(w, p)));
        }
        return leaf(scope);
    }

    private Sentence leaf(int scope) {
        switch (random.nextInt(scope == QUESTION ? 11 : scope == TURNS ? 9 : 7)) {
            case 0:
                int small = random.nextInt(6);
                return new Sentence(String.valueOf(small), (w, p) -> small);
            case 1:
                int number = random.nextInt(10000);
                int few = random.nextInt(3) == 0 ? number : number % 21;
                return new Sentence(String.valueOf(few), (w, p) -> few);
            case 2:
                return new Sentence("air", (w, p) -> w.air[p]);
            case 3:
                return new Sentence("most", Naive::most);
            case 4:
                return new Sentence("least", Naive::least);
            case 5:
                return new Sentence("night", (w, p) -> w.night);
            case 6:
                return new Sentence("gales", (w, p) -> w.gales());
            case 9:
                return new Sentence("number", (w, p) -> p);
            case 10:
                return random.nextBoolean()
                    ? new Sentence("aunt", (w, p) -> w.aunt[p] ? 1 : 0)
                    : new Sentence("deaf", (w, p) -> w.deaf[p] ? 1 : 0);
            default:
                return new Sentence("told", Naive::told);
        }
    }

    Sentence test(int open) {
        Sentence left = both(open);
        while (random.nextInt(3) == 0) {
            Naive.Value a = left.value();
            Sentence right = both(open);
            Naive.Value b = right.value();
            left = new Sentence(left.text() + " or " + right.text(), (w, p) -> Math.max(a.of(w, p), b.of(w, p)));
        }
        return left;
    }

    private Sentence both(int open) {
        Sentence left = fact(open);
        while (random.nextInt(3) == 0) {
            Naive.Value a = left.value();
            Sentence right = fact(open);
            Naive.Value b = right.value();
            left = new Sentence(left.text() + " and " + right.text(), (w, p) -> Math.min(a.of(w, p), b.of(w, p)));
        }
        return left;
    }

    private Sentence fact(int open) {
        int kind = random.nextInt(open > 0 ? 7 : 5);
        if (kind == 0) {
            return new Sentence("all", (w, p) -> 1);
        }
        if (kind == 5) {
            Sentence inner = fact(open - 1);
            Naive.Value a = inner.value();
            return new Sentence("not " + inner.text(), (w, p) -> 1 - a.of(w, p));
        }
        if (kind == 6) {
            Sentence inner = test(open - 1);
            return new Sentence("[" + blank() + inner.text() + blank() + "]", inner.value());
        }
        Sentence one = sum(QUESTION, Math.min(open, 2));
        Sentence two = sum(QUESTION, Math.min(open, 2));
        Naive.Value a = one.value();
        Naive.Value b = two.value();
        char sign = "<>=".charAt(random.nextInt(3));
        return new Sentence(one.text() + blank() + sign + blank() + two.text(), (w, p) -> {
            int order = Integer.compare(a.of(w, p), b.of(w, p));
            return (sign == '<' ? order < 0 : sign == '>' ? order > 0 : order == 0) ? 1 : 0;
        });
    }
}
