import java.io.IOException;
import java.lang.reflect.Method;
import java.nio.file.Files;
import java.nio.file.Path;
import java.util.regex.Matcher;
import java.util.regex.Pattern;
import java.util.stream.Stream;

/** The example of README.md answers what it says there, and each test stands in one of its tables. */
public final class ReadmeTest {
    private static final Pattern CALL = Pattern.compile("x\\.(\\w+)\\(([^)]*)\\);(?:\\s*// ([-\\w]+))?");

    public static void main(String[] args) throws Exception {
        Check c = new Check("ReadmeTest");
        Path folder = Path.of(args.length > 2 ? args[2] : "src/test/java");
        String readme = Files.readString(folder.resolve("../../../README.md"));
        example(c, readme);
        tables(c, readme, folder);
        c.finish();
    }

    private static void example(Check c, String readme) throws ReflectiveOperationException {
        NightForecast x = new NightForecast();
        int answers = 0;
        int from = readme.indexOf("```java");
        Matcher call = CALL.matcher(readme.substring(from, readme.indexOf("```", from + 3)));
        while (call.find()) {
            String answer = answerOf(x, call.group(1), call.group(2));
            if (call.group(3) != null) {
                answers++;
                c.due(call.group(), answer, call.group(3));
            }
        }
        c.due("answers that README.md tells", answers > 4, true);
    }

    private static String answerOf(NightForecast x, String name, String given) throws ReflectiveOperationException {
        String[] texts = given.isBlank() ? new String[0] : given.split(",");
        Object[] numbers = new Object[texts.length];
        for (int k = 0; k < texts.length; k++) {
            numbers[k] = Long.decode(texts[k].trim()).intValue();
        }
        for (Method method : NightForecast.class.getMethods()) {
            if (method.getName().equals(name) && method.getParameterCount() == numbers.length) {
                return String.valueOf(method.invoke(x, numbers));
            }
        }
        return "no such call";
    }

    private static void tables(Check c, String readme, Path folder) throws IOException {
        try (Stream<Path> files = Files.list(folder)) {
            files.map(file -> file.getFileName().toString()).filter(name -> name.endsWith("Test.java")).sorted().forEach(name ->
                c.due("README.md tells of " + name, readme.contains("`" + name.replace(".java", "") + "`"), true));
        }
    }
}
