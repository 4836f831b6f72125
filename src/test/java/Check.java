import java.nio.charset.StandardCharsets;

/** What the tests share: answers that are due, and texts that go onto the tape. */
final class Check {
    static final int NONE = NightForecast.NONE;
    private static final int ALL = -1;

    private final String test;
    private int wrong = 0;
    private int asked = 0;

    Check(String test) {
        this.test = test;
    }

    void due(String call, long got, long want) {
        asked++;
        if (got != want) {
            wrong++;
            System.out.println(test + ": " + call + " answered " + got + ", due is " + want);
        }
    }

    void due(String call, boolean got, boolean want) {
        due(call, got ? 1 : 0, want ? 1 : 0);
    }

    /** A city is told and has so many statements. */
    NightForecast city(String text, int statements) {
        NightForecast x = new NightForecast();
        tell(x, text);
        due("city() of " + text, x.city(), statements);
        return x;
    }

    NightForecast city(String text) {
        int statements = 0;
        for (int k = 0; k < text.length(); k++) {
            statements += text.charAt(k) == ';' ? 1 : 0;
        }
        return city(text, statements);
    }

    /** A text is refused as a city, with this fault at this place. */
    void cityFault(String text, int fault, int place) {
        NightForecast x = new NightForecast();
        tell(x, text);
        due("city() of " + text, x.city(), NONE);
        due("fault(0) of " + text, x.fault(0), fault);
        due("fault(1) of " + text, x.fault(1), place);
        due("status(1) of " + text, x.status(1), 1);
    }

    void ask(NightForecast x, String text, long answer) {
        tell(x, text);
        due("ask() of " + text, x.ask(), answer);
        due("fault(0) of " + text, x.fault(0), 0);
        due("fault(1) of " + text, x.fault(1), NONE);
    }

    void askFault(NightForecast x, String text, int fault, int place) {
        tell(x, text);
        due("ask() of " + text, x.ask(), NightForecast.NOTHING);
        due("fault(0) of " + text, x.fault(0), fault);
        due("fault(1) of " + text, x.fault(1), place);
    }

    static void tell(NightForecast x, String text) {
        tell(x, text.getBytes(StandardCharsets.ISO_8859_1), ALL);
    }

    static void tell(NightForecast x, int... bytes) {
        byte[] all = new byte[bytes.length];
        for (int k = 0; k < bytes.length; k++) {
            all[k] = (byte) bytes[k];
        }
        tell(x, all, ALL);
    }

    private static void tell(NightForecast x, byte[] bytes, int count) {
        int length = count == ALL ? bytes.length : count;
        int[] five = new int[5];
        for (int at = 0; at < length; at += 20) {
            for (int k = 0; k < 5; k++) {
                five[k] = 0;
                for (int b = 0; b < 4; b++) {
                    int from = at + 4 * k + b;
                    five[k] = (five[k] << 8) | (from < length ? bytes[from] & 255 : ' ');
                }
            }
            x.feed(five[0], five[1], five[2], five[3], five[4]);
        }
        x.end(length);
    }

    void finish() {
        System.out.println(test + ": " + asked + " answers, " + wrong + " not as due");
        if (wrong != 0) {
            System.exit(1);
        }
    }
}
