import java.nio.charset.StandardCharsets;

/** What the tests share: answers that are due, and texts that go onto the tape. */
final class Check {
    static final int NONE = NightForecast.NONE;
    private static final int ALL = -1;

    private final String test;
    private String about = "";
    private int wrong = 0;
    private int asked = 0;

    Check(String test) {
        this.test = test;
    }

    /** What follows is for this sentence of a promise's own text; DocTest looks it up in the document. */
    void sentence(int promise, String quote) {
        about = " [promise " + promise + ": " + quote + "]";
    }

    /** What follows is for this sentence of the document's Terms, on which a promise rests. */
    void term(int promise, String quote) {
        about = " [promise " + promise + ", Terms: " + quote + "]";
    }

    void due(String call, long got, long want) {
        asked++;
        if (got != want) {
            wrong++;
            System.out.println(test + ": " + call + " answered " + got + ", due is " + want + about);
        }
    }

    void due(String call, String got, String want) {
        asked++;
        if (!got.equals(want)) {
            wrong++;
            System.out.println(test + ": " + call + " answered " + got + ", due is " + want + about);
        }
    }

    void due(String call, boolean got, boolean want) {
        due(call, got ? 1 : 0, want ? 1 : 0);
    }

    /** A city is told and has so many statements. */
    NightForecast city(String text, int statements) {
        NightForecast x = new NightForecast();
        tell(x, text);
        due("city() of " + text, x.city(), statements);
        return x;
    }

    NightForecast city(String text) {
        int statements = 0;
        for (int k = 0; k < text.length(); k++) {
            statements += text.charAt(k) == ';' ? 1 : 0;
        }
        return city(text, statements);
    }

    /** A text is refused as a city, with this fault at this place. */
    void cityFault(String text, int fault, int place) {
        NightForecast x = new NightForecast();
        tell(x, text);
        due("city() of " + text, x.city(), NONE);
        due("fault(0) of " + text, x.fault(0), fault);
        due("fault(1) of " + text, x.fault(1), place);
        due("status(1) of " + text, x.status(1), 1);
    }

    void ask(NightForecast x, String text, long answer) {
        tell(x, text);
        due("ask() of " + text, x.ask(), answer);
        due("fault(0) of " + text, x.fault(0), 0);
        due("fault(1) of " + text, x.fault(1), NONE);
    }

    void askFault(NightForecast x, String text, int fault, int place) {
        tell(x, text);
        due("ask() of " + text, x.ask(), NightForecast.NOTHING);
        due("fault(0) of " + text, x.fault(0), fault);
        due("fault(1) of " + text, x.fault(1), place);
    }

    static void tell(NightForecast x, String text) {
        tell(x, text.getBytes(StandardCharsets.ISO_8859_1), ALL);
    }

    static void tell(NightForecast x, int... bytes) {
        byte[] all = new byte[bytes.length];
        for (int k = 0; k < bytes.length; k++) {
            all[k] = (byte) bytes[k];
        }
        tell(x, all, ALL);
    }

    private static void tell(NightForecast x, byte[] bytes, int count) {
        int length = count == ALL ? bytes.length : count;
        int[] five = new int[5];
        for (int at = 0; at < length; at += 20) {
            for (int k = 0; k < 5; k++) {
                five[k] = 0;
                for (int b = 0; b < 4; b++) {
                    int from = at + 4 * k + b;
                    five[k] = (five[k] << 8) | (from < length ? bytes[from] & 255 : ' ');
                }
            }
            x.feed(five[0], five[1], five[2], five[3], five[4]);
        }
        x.end(length);
    }

    /** The bytes of an image; a row is a part's air, its flags, and what acts tell. */
    static int[] image(int night, int... rows) {
        int[] bytes = new int[rows.length + 3];
        bytes[0] = night >> 8;
        bytes[1] = night & 255;
        System.arraycopy(rows, 0, bytes, 2, rows.length);
        int check = 137;
        for (int k = 0; k < bytes.length - 1; k++) {
            check = (3 * check + bytes[k]) % 251;
        }
        bytes[bytes.length - 1] = check;
        return bytes;
    }

    /** The city is put into a state by an image. */
    void turnOn(NightForecast x, int night, int... rows) {
        tell(x, image(night, rows));
        due("on() at night " + night, x.on(), true);
    }

    void see(NightForecast x, int... rows) {
        tell(x, rows);
        due("see() of " + rows.length + " bytes", x.see(), rows.length / 3);
    }

    /** All that can be looked at without a change, but for refusals, faults and the image. */
    static String all(NightForecast x) {
        StringBuilder text = new StringBuilder();
        for (int what = 0; what <= 9; what++) {
            text.append(x.has(what)).append(' ');
        }
        for (int p = 0; p < x.has(0); p++) {
            text.append('|').append(p);
            for (int k = 0; k < 6; k++) {
                text.append(' ').append(x.letter(p, k));
            }
            for (int what = 0; what < 5; what++) {
                text.append(' ').append(x.part(p, what)).append(' ').append(x.tonight(p, what));
            }
            text.append(' ').append(x.fits(p)).append(' ').append(x.later(p, 5, 0));
        }
        for (int k = 0; k < x.has(7); k++) {
            text.append('/').append(x.kept(k, 0)).append(' ').append(x.kept(k, 1)).append(' ').append(x.kept(k, 2));
        }
        return text.toString();
    }

    /** The same in fewer calls, by an image, for runs that look often: an object is good for 512 calls alone. */
    static String brief(NightForecast x) {
        StringBuilder text = new StringBuilder();
        int length = x.image();
        for (int k = 0; k < length; k++) {
            text.append(x.octet(k)).append(' ');
        }
        int kept = x.has(7);
        for (int k = 0; k < kept; k++) {
            text.append('/').append(x.kept(k, 0)).append(' ').append(x.kept(k, 1)).append(' ').append(x.kept(k, 2));
        }
        return text.append('|').append(x.has(9)).toString();
    }

    /** The acts, told by undoing them, the seed, by slips, and the tape's length: the object is used up by it. */
    static String usedUp(NightForecast x) {
        StringBuilder text = new StringBuilder(all(x));
        for (int k = 0; k <= 20 && x.undo(); k++) {
            text.append("\n").append(all(x));
        }
        text.append("\nslips ").append(x.chance(9)).append(' ').append(all(x));
        return text.append("\ntape ").append(x.feed(0, 0, 0, 0, 0)).toString();
    }

    void finish() {
        System.out.println(test + ": " + asked + " answers, " + wrong + " not as due");
        if (wrong != 0) {
            System.exit(1);
        }
    }
}
