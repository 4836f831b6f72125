import java.io.IOException;
import java.lang.reflect.Constructor;
import java.lang.reflect.Field;
import java.lang.reflect.Method;
import java.lang.reflect.Modifier;
import java.nio.file.Files;
import java.nio.file.Path;
import java.util.Arrays;
import java.util.Set;
import java.util.TreeSet;
import java.util.regex.Matcher;
import java.util.regex.Pattern;

/** The face of the class is the document's, and its source keeps to what of LANGUAGE.md can be seen in the text. */
public final class FaceTest {
    private static final String FACE =
        "int feed(5) boolean end(1) int city(0) int fault(1) int has(1) int letter(2) int part(2) int tonight(2)"
        + " int kept(2) int later(3) int comes(1) int self(1) int say(3) int aunts(2) int right(2) int rest(1) int see(0)"
        + " int fits(1) int tells(2) boolean read(2) boolean hush(1) boolean aunt(2) boolean deaf(2) int nights(1)"
        + " int chance(1) boolean undo(0) boolean seed(1) long ask(0) int image(0) int octet(1) boolean on(0) int status(1)";

    public static void main(String[] args) throws IOException {
        Check c = new Check("FaceTest");
        face(c);
        c.due("NONE", NightForecast.NONE, -1);
        c.due("NOTHING", NightForecast.NOTHING, -1000000000000000L);
        source(c, Files.readString(Path.of(args.length > 0 ? args[0] : "src/main/java/NightForecast.java")));
        c.finish();
    }

    private static void face(Check c) {
        Set<String> open = new TreeSet<>();
        Set<String> hidden = new TreeSet<>();
        for (Method method : NightForecast.class.getDeclaredMethods()) {
            String name = method.getReturnType() + " " + method.getName() + "(" + method.getParameterCount() + ")";
            (Modifier.isPrivate(method.getModifiers()) ? hidden : open).add(name);
        }
        Set<String> due = new TreeSet<>(Arrays.asList(FACE.split("(?<=\\)) ")));
        same(c, "methods", open.toString(), due.toString());
        Set<String> names = new TreeSet<>();
        due.forEach(name -> names.add(name.replaceAll(".* |\\(.*", "")));
        hidden.forEach(name -> c.due(name + " has a name of its own", names.contains(name.replaceAll(".* |\\(.*", "")), false));
        Set<String> fields = new TreeSet<>();
        for (Field field : NightForecast.class.getDeclaredFields()) {
            if (!Modifier.isPrivate(field.getModifiers())) {
                fields.add(field.getName());
            }
            boolean state = Modifier.isStatic(field.getModifiers()) && !Modifier.isFinal(field.getModifiers());
            c.due(field.getName() + " is static state", state, false);
        }
        same(c, "fields", fields.toString(), "[NONE, NOTHING]");
        Constructor<?>[] makers = NightForecast.class.getConstructors();
        c.due("constructors", makers.length, 1);
        c.due("parameters of the constructor", makers[0].getParameterCount(), 0);
        c.due("final", Modifier.isFinal(NightForecast.class.getModifiers()), true);
    }

    private static void same(Check c, String what, String got, String want) {
        c.due(what + ": " + got + " for " + want, got.equals(want), true);
    }

    private static void source(Check c, String text) {
        String code = text.replaceAll("(?s)/\\*.*?\\*/", "").replaceAll("//[^\n]*", "").replaceAll("\"[^\"\n]*\"", "\"\"");
        String[] barred = {
            "throw", "throws", "try", "catch", "finally", "synchronized", "assert", "package", "protected", "volatile", "native"
        };
        for (String word : barred) {
            c.due("the word " + word, Pattern.compile("\\b" + word + "\\b").matcher(code).find(), false);
        }
        c.due("an arrow", code.contains("->"), false);
        c.due("a method reference", code.contains("::"), false);
        Matcher imports = Pattern.compile("import ([\\w.]+);").matcher(code);
        while (imports.find()) {
            same(c, "import", imports.group(1), "java.util.Arrays");
        }
        for (int k = 0; k < text.length(); k++) {
            if (text.charAt(k) > 126) {
                c.due("a sign beyond 126 at " + k, text.charAt(k), 0);
            }
        }
        Matcher classes = Pattern.compile("\\bclass \\w+").matcher(code);
        c.due("at most twelve classes", classes.results().count() <= 12, true);
        methodLengths(c, text);
    }

    private static void methodLengths(Check c, String text) {
        String[] lines = text.split("\n");
        for (int k = 0; k < lines.length; k++) {
            Matcher head = Pattern.compile("^( {4}| {8})\\w[^=;]*\\(([^)]*)\\) \\{$").matcher(lines[k]);
            if (!head.find() || lines[k].trim().matches("(if|for|while|switch)\\b.*")) {
                continue;
            }
            int end = k;
            while (end < lines.length && !lines[end].equals(head.group(1) + "}")) {
                end++;
            }
            c.due(lines[k].trim() + " is short", end - k <= 60, true);
            c.due(lines[k].trim() + " takes at most seven", head.group(2).split(",").length <= 7, true);
        }
    }
}
