/** Promises 1 to 3: a new object, feed, end. */
public final class TapeTest {
    public static void main(String[] args) {
        Check c = new Check("TapeTest");
        newObject(c);
        feeding(c);
        ending(c);
        c.finish();
    }

    private static void newObject(Check c) {
        NightForecast x = new NightForecast();
        for (int what = 0; what <= 9; what++) {
            c.due("has(" + what + ")", x.has(what), 0);
        }
        for (int what = 0; what <= 5; what++) {
            c.due("status(" + what + ")", x.status(what), 0);
        }
        c.due("part(0, 0)", x.part(0, 0), -1);
        c.due("fault(0)", x.fault(0), 0);
        c.due("fault(1)", x.fault(1), -1);
        c.due("octet(0)", x.octet(0), -1);
    }

    private static void feeding(Check c) {
        NightForecast x = new NightForecast();
        for (int k = 1; k <= 80; k++) {
            c.due("feed " + k, x.feed(0x20202020, 0x20202020, 0x20202020, 0x20202020, 0x20202020), 20 * k);
        }
        c.due("feed 81", x.feed(0, 0, 0, 0, 0), -1);
        c.due("status(0)", x.status(0), 1);
        c.due("end(1581)", x.end(1581), true);
        c.due("feed beyond", x.feed(0, 0, 0, 0, 0), -1);
        c.due("status(0)", x.status(0), 2);
        c.due("end(1580)", x.end(1580), true);
        c.due("feed to the brim", x.feed(0x20202020, 0x20202020, 0x20202020, 0x20202020, 0x2020203b), 1600);
        c.due("city()", x.city(), -1);
        c.due("fault(1)", x.fault(1), 1599);
        c.due("feed behind city()", x.feed(-1, 0, 0, 0, 0), 20);
        c.due("end(2)", x.end(2), true);
        c.due("ask()", x.ask(), NightForecast.NOTHING);
        c.due("fault(1)", x.fault(1), 0);
    }

    private static void ending(Check c) {
        NightForecast x = new NightForecast();
        c.due("end(0)", x.end(0), true);
        c.due("end(1)", x.end(1), false);
        c.due("end(-1)", x.end(-1), false);
        c.due("end(min)", x.end(Integer.MIN_VALUE), false);
        c.due("status(0)", x.status(0), 3);
        x.feed(0x746f7461, 0x6c203533, 0x20202020, 0x20202020, 0x20202020);
        c.due("end(21)", x.end(21), false);
        c.due("end(20)", x.end(20), true);
        c.due("end(7)", x.end(7), true);
        c.due("end(8)", x.end(8), false);
        c.due("feed", x.feed(0, 0, 0, 0, 0), 27);
        c.due("end(7)", x.end(7), true);
        c.due("ask() of total 5", x.ask(), 0);
        c.due("fault(0)", x.fault(0), 0);
        c.due("end(1) behind ask()", x.end(1), false);
        c.due("status(0)", x.status(0), 6);
    }
}
