import java.lang.reflect.InvocationTargetException;
import java.lang.reflect.Method;
import java.util.ArrayList;
import java.util.Comparator;
import java.util.List;
import java.util.Random;

/** No call throws, whatever it is given, in whatever state; and the dearest calls end soon. */
public final class EdgeCallsTest {
    private static final int RUNS = 300;
    private static final int CALLS = 512;
    private static final int[] ODD = {
        Integer.MIN_VALUE, Integer.MIN_VALUE + 1, -1000, -2, 31, 32, 33, 63, 64, 100, 101, 255, 256, 998, 999, 1000,
        1600, 1601, Integer.MAX_VALUE - 1, Integer.MAX_VALUE
    };
    private static final String[] SCRAPS = {
        "part ", "p ", "q ", "air ", "12 ", "21", "near ", "aunt ", "deaf ", "says ", "rival ", "turns ", "gale ", "slip ",
        ";", ";", ";", "(", ")", "[", "]", "min(", "max(", ",", "+", "-", "*", "/", "<", ">", "=", "first ", "last ",
        "often ", "total ", "most ", "least ", "not ", "all ", "or ", "and ", "told ", "number ", "\n", "abcdefg", "99999",
        "part p air 3;", "part q air 15;", "near p q;", "says air+1;", "turns (told+most)/2;"
    };

    public static void main(String[] args) {
        Check c = new Check("EdgeCallsTest");
        List<Method> calls = new ArrayList<>();
        for (Method method : NightForecast.class.getDeclaredMethods()) {
            if (java.lang.reflect.Modifier.isPublic(method.getModifiers())) {
                calls.add(method);
            }
        }
        calls.sort(Comparator.comparing(Method::getName));
        c.due("public methods", calls.size(), 32);
        for (int run = 0; run < RUNS; run++) {
            c.due("run " + run, goesOn(calls, new Random(run)), true);
        }
        longSums(c);
        c.finish();
    }

    private static boolean goesOn(List<Method> calls, Random random) {
        NightForecast x = new NightForecast();
        for (int k = 0; k < CALLS; k++) {
            if (random.nextInt(6) == 0) {
                StringBuilder text = new StringBuilder();
                for (int n = random.nextInt(20); n > 0; n--) {
                    text.append(SCRAPS[random.nextInt(SCRAPS.length)]);
                }
                Check.tell(x, text.toString());
            }
            Method call = calls.get(random.nextInt(calls.size()));
            Object[] given = new Object[call.getParameterCount()];
            for (int n = 0; n < given.length; n++) {
                given[n] = random.nextInt(4) == 0 ? ODD[random.nextInt(ODD.length)] : random.nextInt(9) - 1;
            }
            try {
                call.invoke(x, given);
            } catch (InvocationTargetException | IllegalAccessException e) {
                e.printStackTrace(System.out);
                return false;
            }
        }
        return true;
    }

    /** Texts that fill the tape with the longest sums there can be. */
    private static void longSums(Check c) {
        StringBuilder text = new StringBuilder();
        for (char name = 'a'; name < 'h'; name++) {
            text.append("part ").append(name).append(" air ").append(name - 'a').append(';');
        }
        text.append("says 1");
        for (int k = 0; k < 360; k++) {
            text.append("+1");
        }
        text.append(";turns told");
        for (int k = 0; k < 360; k++) {
            text.append("+0");
        }
        text.append("-350;");
        NightForecast x = c.city(text.toString(), 9);
        c.due("tonight(0, 0)", x.tonight(0, 0), 20);
        c.due("tonight(0, 3)", x.tonight(0, 3), 0);
        c.due("rest(30)", x.rest(30), 0);
        c.due("aunts(0, 30)", x.aunts(0, 30), 0);
        c.due("right(0, 60)", x.right(0, 60), 0);
        StringBuilder question = new StringBuilder("total 1");
        while (question.length() < 1599) {
            question.append("+1");
        }
        c.due("the tape is full", question.length(), 1599);
        c.ask(x, question.toString(), 7 * 797);
    }
}
