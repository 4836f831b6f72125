/** Promises 30 to 33: image, octet, on, status. */
public final class ImageTest {
    private static final String CITY = "part a air 4;part b air 9;part d air 20;aunt b;deaf b;deaf d;says air+1;gale 6;";

    public static void main(String[] args) {
        Check c = new Check("ImageTest");
        writing(c);
        coming(c);
        refusing(c);
        counting(c);
        c.finish();
    }

    private static int[] checked(int... bytes) {
        int check = 137;
        for (int k = 0; k < bytes.length - 1; k++) {
            check = (3 * check + bytes[k]) % 251;
        }
        bytes[bytes.length - 1] = check;
        return bytes;
    }

    private static void writing(Check c) {
        NightForecast x = c.city(CITY, 8);
        c.due("octet(0)", x.octet(0), -1);
        x.read(0, 3);
        x.hush(1);
        c.due("image()", x.image(), 12);
        octets(c, x, checked(0, 0, 4, 0, 3, 9, 3, 254, 20, 2, 255, 0));
        x.nights(100);
        octets(c, x, checked(0, 0, 4, 0, 3, 9, 3, 254, 20, 2, 255, 0));
        x.nights(100);
        x.nights(100);
        c.due("image()", x.image(), 12);
        octets(c, x, checked(1, 44, 20, 0, 255, 9, 3, 255, 20, 2, 255, 0));
        Check.tell(x, "");
        x.city();
        c.due("octet(11) behind city()", x.octet(11) >= 0, true);
        c.due("image()", x.image(), 3);
        octets(c, x, checked(0, 0, 0));
    }

    private static void octets(Check c, NightForecast x, int[] due) {
        for (int k = 0; k < due.length; k++) {
            c.due("octet(" + k + ")", x.octet(k), due[k]);
        }
        c.due("octet behind", x.octet(due.length), -1);
        c.due("octet(-1)", x.octet(-1), -1);
        c.due("octet(max)", x.octet(Integer.MAX_VALUE), -1);
    }

    private static void coming(Check c) {
        NightForecast x = c.city(CITY, 8);
        x.read(0, 9);
        x.nights(1);
        Check.tell(x, 2, 1, 7);
        x.see();
        c.due("has(7)", x.has(7), 1);
        Check.tell(x, checked(3, 231, 20, 3, 254, 0, 1, 20, 6, 0, 255, 0));
        c.due("on()", x.on(), true);
        int[] due = {3, 0, 999, 2, 2, 1, 26, 0, 1, 0};
        for (int what = 0; what < due.length; what++) {
            c.due("has(" + what + ")", x.has(what), due[what]);
        }
        c.due("part(0, 1)", x.part(0, 1), 1);
        c.due("part(0, 2)", x.part(0, 2), 1);
        c.due("part(1, 1)", x.part(1, 1), 1);
        c.due("part(1, 2)", x.part(1, 2), 0);
        c.due("tonight(0, 0)", x.tonight(0, 0), -1);
        c.due("tonight(1, 0)", x.tonight(1, 0), 20);
        c.due("tonight(2, 0)", x.tonight(2, 0), 7);
        c.due("undo()", x.undo(), false);
        c.due("end(1)", x.end(1), false);
        c.due("image()", x.image(), 12);
        octets(c, x, checked(3, 231, 20, 3, 254, 0, 1, 20, 6, 0, 255, 0));
        Check.tell(x, checked(0, 7, 1, 0, 0, 2, 0, 255, 3, 0, 254, 0));
        c.due("on()", x.on(), true);
        c.due("has(4)", x.has(4), 0);
        c.due("has(5)", x.has(5), 0);
        c.due("image()", x.image(), 12);
        octets(c, x, checked(0, 7, 1, 0, 0, 2, 0, 255, 3, 0, 254, 0));
    }

    private static void refusing(Check c) {
        NightForecast x = c.city(CITY, 8);
        x.read(0, 9);
        refused(c, x);
        refused(c, x, 0, 0, 236);
        refused(c, x, checked(3, 232, 4, 0, 255, 9, 3, 255, 20, 2, 255, 0));
        refused(c, x, checked(255, 0, 4, 0, 255, 9, 3, 255, 20, 2, 255, 0));
        refused(c, x, checked(0, 0, 21, 0, 255, 9, 3, 255, 20, 2, 255, 0));
        refused(c, x, checked(0, 0, 4, 4, 255, 9, 3, 255, 20, 2, 255, 0));
        refused(c, x, checked(0, 0, 4, 0, 21, 9, 3, 255, 20, 2, 255, 0));
        refused(c, x, checked(0, 0, 4, 0, 253, 9, 3, 255, 20, 2, 255, 0));
        refused(c, x, checked(0, 0, 4, 0, 255, 9, 3, 255, 20, 2, 200, 0));
        refused(c, x, checked(0, 0, 4, 0, 255, 9, 3, 255, 0));
        refused(c, x, checked(0, 0, 4, 0, 255, 9, 3, 255, 20, 2, 255, 4, 0, 255, 0));
        int[] wrong = checked(0, 0, 4, 0, 255, 9, 3, 255, 20, 2, 255, 0);
        wrong[11]++;
        refused(c, x, wrong);
        c.due("status(5)", x.status(5), 12);
        c.due("has(9) stays", x.has(9), 1);
        c.due("tonight(0, 0) stays", x.tonight(0, 0), 9);
    }

    private static void refused(Check c, NightForecast x, int... bytes) {
        Check.tell(x, bytes);
        c.due("on() of " + bytes.length + " bytes", x.on(), false);
        c.due("the tape goes", x.end(1), false);
    }

    private static void counting(Check c) {
        NightForecast x = c.city("part a air 4;", 1);
        x.end(-1);
        x.see();
        x.see();
        for (int k = 0; k < 3; k++) {
            x.read(9, 9);
        }
        for (int k = 0; k < 4; k++) {
            x.nights(0);
        }
        for (int k = 0; k < 5; k++) {
            x.undo();
        }
        for (int k = 0; k < 6; k++) {
            x.seed(-1);
        }
        Check.tell(x, "nothing");
        x.ask();
        for (int what = 0; what < 6; what++) {
            c.due("status(" + what + ")", x.status(what), what + 1);
        }
        Check.tell(x, "");
        x.city();
        c.due("status(1) behind city()", x.status(1), 2);
        c.due("status(6)", x.status(6), -1);
        c.due("status(-1)", x.status(-1), -1);
    }
}
