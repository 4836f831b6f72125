import java.io.IOException;
import java.nio.file.Files;
import java.nio.file.Path;
import java.util.ArrayList;
import java.util.BitSet;
import java.util.List;
import java.util.TreeMap;
import java.util.Map;
import java.util.regex.Matcher;
import java.util.regex.Pattern;
import java.util.stream.Stream;

/** Each sentence of the document's Terms and promises is quoted by a test, and each quote stands in the document. */
public final class DocTest {
    private static final int TERMS = 0;
    private static final int PROMISES = 33;
    private static final Pattern QUOTE = Pattern.compile("c\\.(sentence|term)\\((\\d+), \"((?:[^\"\\\\]|\\\\.)*)\"\\)");

    private final Check c = new Check("DocTest");
    private final Map<Integer, String> texts = new TreeMap<>();
    private final Map<Integer, BitSet> quoted = new TreeMap<>();

    public static void main(String[] args) throws IOException {
        DocTest test = new DocTest();
        test.readDocument(Files.readString(Path.of(args.length > 1 ? args[1] : "../shared/DOC.md")));
        for (String source : sources(Path.of(args.length > 2 ? args[2] : "src/test/java"))) {
            test.lookUp(source);
        }
        test.findGaps();
        test.c.finish();
    }

    private static List<String> sources(Path folder) throws IOException {
        List<String> texts = new ArrayList<>();
        try (Stream<Path> files = Files.list(folder)) {
            for (Path file : files.sorted().toList()) {
                texts.add(Files.readString(file));
            }
        }
        return texts;
    }

    private void readDocument(String document) {
        int from = document.indexOf("\nI. A CITY");
        int to = document.indexOf("\nThe constants:");
        texts.put(TERMS, plain(document.substring(from, to).replaceAll("```(text)?", "")));
        Matcher heads = Pattern.compile("## Promise (\\d+): [^\n]*\n\n`[^`]*`: ([^\n]*)\n").matcher(document);
        while (heads.find()) {
            texts.put(Integer.parseInt(heads.group(1)), plain(heads.group(2)));
        }
        c.due("texts of the document", texts.size(), PROMISES + 1);
        texts.forEach((number, text) -> quoted.put(number, new BitSet(text.length())));
    }

    private static String plain(String text) {
        return text.replaceAll("\\s+", " ").trim();
    }

    private void lookUp(String source) {
        Matcher quotes = QUOTE.matcher(source);
        while (quotes.find()) {
            int promise = Integer.parseInt(quotes.group(2));
            c.due("promise " + promise, texts.containsKey(promise) && promise != TERMS, true);
            int number = quotes.group(1).equals("term") ? TERMS : promise;
            String quote = quotes.group(3);
            String text = texts.getOrDefault(number, "");
            int at = text.indexOf(quote);
            c.due("the document says: " + quote + " for " + number, at >= 0, true);
            if (at >= 0) {
                c.due("it is said once: " + quote, text.indexOf(quote, at + 1) < 0, true);
                quoted.get(number).set(at, at + quote.length());
            }
        }
    }

    private void findGaps() {
        texts.forEach((number, text) -> {
            BitSet marks = quoted.get(number);
            for (int at = marks.nextClearBit(0); at < text.length(); at = marks.nextClearBit(at)) {
                int end = marks.nextSetBit(at);
                String gap = text.substring(at, end < 0 ? text.length() : end);
                boolean says = gap.replaceAll("\\b(I|II|III|IV)\\.", "").matches(".*[A-Za-z0-9].*");
                c.due("no test quotes of " + (number == TERMS ? "Terms" : "promise " + number) + ": " + gap, says, false);
                at += gap.length();
            }
        });
    }
}
