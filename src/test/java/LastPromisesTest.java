/** Promises 29 to 33, sentence by sentence: ask, image, octet, on, status. */
public final class LastPromisesTest {
    private static final String THREE = "part a air 4;part b air 9;part d air 20;aunt b;deaf b;deaf d;says air+1;gale 6;slip 50;";

    public static void main(String[] args) {
        Check c = new Check("LastPromisesTest");
        askTakesTheTape(c);
        askHoldsForNone(c);
        askFault(c);
        imageIsWritten(c);
        octetOfTheLatest(c);
        octetNone(c);
        onTakesTheTape(c);
        onAllIsAsItTells(c);
        onNothingKept(c);
        onRefused(c);
        onTooLarge(c);
        onAllStaying(c);
        statusTape(c);
        statusTexts(c);
        statusActs(c);
        statusNights(c);
        statusUndo(c);
        statusSeedAndOn(c);
        statusOthers(c);
        c.finish();
    }

    private static void askTakesTheTape(Check c) {
        c.sentence(29, "The tape (it goes) is a QUESTION: its answer");
        NightForecast x = c.city(THREE);
        String before = Check.all(x);
        c.ask(x, "total air", 33);
        c.due("end(1) behind it", x.end(1), false);
        c.ask(x, "often air>5", 2);
        c.askFault(x, "often", 1, 5);
        c.due("end(1) behind a FAULT", x.end(1), false);
        c.due("nothing turns by it", Check.all(x), before);
        c.ask(x, "total 0-air", -33);
    }

    private static void askHoldsForNone(Check c) {
        c.sentence(29, "NONE of first, last, when its TEST holds for none");
        NightForecast x = c.city(THREE);
        c.ask(x, "first air>20", -1);
        c.ask(x, "last air>20", -1);
        c.ask(x, "often air>20", 0);
        c.ask(x, "first air>19", 2);
        c.ask(x, "last air<5", 0);
        c.ask(new NightForecast(), "first all", -1);
        c.ask(new NightForecast(), "last all", -1);
        c.ask(new NightForecast(), "often all", 0);
    }

    private static void askFault(Check c) {
        c.sentence(29, "NOTHING with a FAULT");
        NightForecast x = c.city(THREE);
        String before = Check.all(x);
        c.due("NOTHING", NightForecast.NOTHING, -1000000000000000L);
        c.askFault(x, "", 1, 0);
        c.askFault(x, "total all", 1, 6);
        c.askFault(x, "first (((((((1", 4, 12);
        c.ask(x, "least 0-1", -1);
        c.ask(x, "least 0-9999*9999", -1000000);
        c.due("all stays", Check.all(x), before);
        for (int what = 0; what < 6; what++) {
            c.due("status(" + what + "): it is refused by none", x.status(what), 0);
        }
    }

    private static void imageIsWritten(Check c) {
        c.sentence(30, "AN IMAGE is written: how many bytes");
        c.due("image() without PARTS", new NightForecast().image(), 3);
        StringBuilder text = new StringBuilder();
        for (int parts = 1; parts <= 7; parts++) {
            text.append("part ").append((char) ('a' + parts)).append(" air ").append(parts).append(';');
            NightForecast x = c.city(text.toString());
            c.due("image() of " + parts, x.image(), 3 + 3 * parts);
            c.due("image() again", x.image(), 3 + 3 * parts);
        }
        NightForecast x = c.city(THREE);
        x.read(0, 3);
        String before = Check.all(x);
        x.image();
        c.due("nothing turns by it", Check.all(x), before);
    }

    private static void octets(Check c, NightForecast x, int[] due) {
        for (int k = 0; k < due.length; k++) {
            c.due("octet(" + k + ")", x.octet(k), due[k]);
        }
        c.due("octet behind them", x.octet(due.length), -1);
    }

    private static void octetOfTheLatest(Check c) {
        c.sentence(31, "Byte k of the latest image()");
        NightForecast x = c.city(THREE);
        x.read(0, 3);
        x.hush(1);
        x.image();
        int[] first = Check.image(0, 4, 0, 3, 9, 3, 254, 20, 2, 255);
        octets(c, x, first);
        x.nights(100);
        x.undo();
        x.aunt(0, 1);
        octets(c, x, first);
        x.nights(100);
        x.nights(100);
        x.nights(99);
        x.image();
        int[] second = Check.image(299, 20, 1, 255, 9, 3, 255, 20, 2, 255);
        octets(c, x, second);
        Check.tell(x, "part z air 9;");
        x.city();
        octets(c, x, second);
        x.image();
        octets(c, x, Check.image(0, 9, 0, 255));
    }

    private static void octetNone(Check c) {
        c.sentence(31, "NONE when there is none such");
        NightForecast x = c.city(THREE);
        c.due("octet(0) ahead of any image()", x.octet(0), -1);
        x.image();
        int[] none = {-1, 12, 13, 23, 24, 25, Integer.MIN_VALUE, Integer.MAX_VALUE};
        for (int k : none) {
            c.due("octet(" + k + ")", x.octet(k), -1);
        }
        c.due("octet(11)", x.octet(11) >= 0, true);
        Check.tell(x, "");
        x.city();
        x.image();
        c.due("octet(2) of the shorter one", x.octet(2), Check.image(0)[2]);
        c.due("octet(3) of the shorter one", x.octet(3), -1);
    }

    private static void onTakesTheTape(Check c) {
        c.sentence(32, "The tape (it goes) is AN IMAGE of this CITY: true");
        NightForecast x = c.city(THREE);
        c.turnOn(x, 7, 1, 0, 255, 2, 0, 255, 3, 0, 255);
        c.due("end(1) behind it", x.end(1), false);
        Check.tell(x, 1, 2, 3);
        c.due("on()", x.on(), false);
        c.due("end(1) behind a refusal", x.end(1), false);
        NightForecast none = new NightForecast();
        c.turnOn(none, 999);
        c.due("has(2) without PARTS", none.has(2), 999);
        x = c.city(THREE);
        x.read(2, 5);
        x.chance(9);
        x.hush(1);
        x.image();
        String state = states(x);
        int[] bytes = new int[12];
        for (int k = 0; k < 12; k++) {
            bytes[k] = x.octet(k);
        }
        x.nights(5);
        x.aunt(0, 1);
        Check.tell(x, bytes);
        c.due("on() of what image() wrote", x.on(), true);
        c.due("what image() wrote", states(x), state);
    }

    /** Of the PARTS alone. */
    private static String states(NightForecast x) {
        String all = Check.all(x);
        return x.has(2) + all.substring(all.indexOf('|'), all.indexOf('/') < 0 ? all.length() : all.indexOf('/'));
    }

    private static void onAllIsAsItTells(Check c) {
        c.sentence(32, "all is as it tells");
        NightForecast x = c.city(THREE);
        x.read(0, 9);
        c.turnOn(x, 999, 20, 3, 254, 0, 1, 20, 6, 0, 255);
        int[] due = {3, 0, 999, 2, 2, 1, 26, 0, 0, 0};
        for (int what = 0; what < due.length; what++) {
            c.due("has(" + what + ")", x.has(what), due[what]);
        }
        int[][] parts = {{20, 1, 1, 0, 1}, {0, 1, 0, 0, 0}, {6, 0, 0, 0, 1}};
        int[] read = {-1, 20, 7};
        for (int p = 0; p < 3; p++) {
            for (int what = 0; what < 5; what++) {
                c.due("part(" + p + ", " + what + ")", x.part(p, what), parts[p][what]);
            }
            c.due("tonight(" + p + ", 0)", x.tonight(p, 0), read[p]);
        }
        c.turnOn(x, 0, 0, 0, 255, 0, 2, 0, 20, 0, 255);
        c.due("has(2)", x.has(2), 0);
        c.due("has(4): no aunts", x.has(4), 0);
        c.due("has(5): one is DEAF", x.has(5), 1);
        c.due("part(1, 2)", x.part(1, 2), 1);
        c.due("tonight(0, 0): no ACT", x.tonight(0, 0), 1);
        c.due("tonight(1, 0): the least", x.tonight(1, 0), 0);
    }

    private static void onNothingKept(Check c) {
        c.sentence(32, "nothing is KEPT or can be undone");
        NightForecast x = c.city(THREE);
        x.nights(5);
        x.read(0, 3);
        c.see(x, 1, 0, 9);
        c.due("has(7) ahead", x.has(7) > 0, true);
        c.turnOn(x, 5, 1, 0, 255, 2, 0, 255, 3, 0, 255);
        c.due("has(7)", x.has(7), 0);
        c.due("kept(0, 0)", x.kept(0, 0), -1);
        c.due("has(9)", x.has(9), 0);
        c.due("undo()", x.undo(), false);
        c.due("has(2)", x.has(2), 5);
        c.due("has(8): what is SEEN stays", x.has(8), 1);
        x.hush(0);
        c.due("undo() of an ACT behind it", x.undo(), true);
        c.due("has(2)", x.has(2), 5);
    }

    /** On an object of its own, as one may be used for 512 calls alone. */
    private static void refusedFirst(Check c, int... bytes) {
        refused(c, c.city(THREE), bytes);
    }

    private static void refused(Check c, NightForecast x, int... bytes) {
        int count = x.status(5);
        String before = Check.all(x);
        Check.tell(x, bytes);
        c.due("on() of " + java.util.Arrays.toString(bytes), x.on(), false);
        c.due("status(5)", x.status(5), count + 1);
        c.due("all stays", Check.all(x), before);
    }

    private static void onRefused(Check c) {
        c.sentence(32, "false, refused (5), when it is none");
        refusedFirst(c);
        refusedFirst(c, Check.image(0));
        refusedFirst(c, Check.image(0, 4, 0, 255, 9, 3, 255));
        refusedFirst(c, Check.image(0, 4, 0, 255, 9, 3, 255, 20, 2));
        refusedFirst(c, Check.image(0, 4, 0, 255, 9, 3, 255, 20, 2, 255, 1, 0, 255));
        refusedFirst(c, Check.image(0, 4, 0, 255, 9, 3, 255, 20, 2, 255, 1));
        refusedFirst(c, Check.image(0, 4, 4, 255, 9, 3, 255, 20, 2, 255));
        refusedFirst(c, Check.image(0, 4, 0, 255, 9, 3, 255, 20, 255, 255));
        refusedFirst(c, Check.image(0, 4, 0, 21, 9, 3, 255, 20, 2, 255));
        refusedFirst(c, Check.image(0, 4, 0, 255, 9, 3, 253, 20, 2, 255));
        refusedFirst(c, Check.image(0, 4, 0, 255, 9, 3, 255, 20, 2, 128));
        for (int k = 0; k < 12; k++) {
            int[] wrong = Check.image(300, 4, 0, 255, 9, 3, 255, 20, 2, 255);
            wrong[k] ^= 1;
            refusedFirst(c, wrong);
        }
        refused(c, new NightForecast());
        refused(c, new NightForecast(), Check.image(0, 4, 0, 255));
        c.turnOn(c.city(THREE), 300, 4, 0, 20, 9, 3, 255, 20, 2, 254);
    }

    private static void onTooLarge(Check c) {
        c.sentence(32, "(NIGHT 999, air 20 at most)");
        NightForecast x = c.city(THREE);
        c.turnOn(x, 999, 4, 0, 255, 9, 3, 255, 20, 2, 255);
        refusedFirst(c, Check.image(1000, 4, 0, 255, 9, 3, 255, 20, 2, 255));
        refusedFirst(c, Check.image(1024, 4, 0, 255, 9, 3, 255, 20, 2, 255));
        refusedFirst(c, Check.image(65535, 4, 0, 255, 9, 3, 255, 20, 2, 255));
        refusedFirst(c, Check.image(0, 21, 0, 255, 9, 3, 255, 20, 2, 255));
        refusedFirst(c, Check.image(0, 4, 0, 255, 9, 3, 255, 21, 2, 255));
        refusedFirst(c, Check.image(0, 4, 0, 255, 255, 3, 255, 20, 2, 255));
        c.turnOn(x, 0, 20, 0, 255, 20, 3, 255, 20, 2, 255);
        NightForecast none = new NightForecast();
        refused(c, none, Check.image(1000));
        c.due("has(2)", none.has(2), 0);
    }

    private static NightForecast busy(Check c) {
        NightForecast x = c.city(THREE);
        x.nights(3);
        x.chance(5);
        x.read(0, 3);
        x.hush(1);
        c.see(x, 1, 0, 9);
        return x;
    }

    private static void onAllStaying(Check c) {
        c.sentence(32, "all staying");
        int[][] wrong = {
            Check.image(0, 4, 0, 255, 9, 3, 255, 20, 2, 200), Check.image(1000, 0, 0, 255, 0, 0, 255, 0, 0, 255), {1, 2, 3}
        };
        String due = Check.usedUp(busy(c));
        for (int[] bytes : wrong) {
            NightForecast x = busy(c);
            Check.tell(x, bytes);
            c.due("on()", x.on(), false);
            c.due("acts, KEPT and seed stay", Check.usedUp(x), due);
        }
    }

    private static void counts(Check c, NightForecast x, int... due) {
        for (int what = 0; what < 6; what++) {
            c.due("status(" + what + ")", x.status(what), due[what]);
        }
    }

    private static void statusTape(Check c) {
        c.sentence(33, "How many were refused: 0 feed(), end()");
        NightForecast x = new NightForecast();
        counts(c, x, 0, 0, 0, 0, 0, 0);
        x.end(-1);
        x.end(1);
        counts(c, x, 2, 0, 0, 0, 0, 0);
        for (int k = 0; k < 82; k++) {
            x.feed(0, 0, 0, 0, 0);
        }
        counts(c, x, 4, 0, 0, 0, 0, 0);
    }

    private static void statusTexts(Check c) {
        c.sentence(33, "1 city(), see()");
        NightForecast x = new NightForecast();
        x.see();
        Check.tell(x, "x");
        x.city();
        counts(c, x, 0, 2, 0, 0, 0, 0);
        Check.tell(x, "x");
        x.ask();
        counts(c, x, 0, 2, 0, 0, 0, 0);
        Check.tell(x, "part a air 4;");
        c.due("city()", x.city(), 1);
        counts(c, x, 0, 2, 0, 0, 0, 0);
    }

    private static void statusActs(Check c) {
        c.sentence(33, "2 read(), hush(), aunt(), deaf()");
        NightForecast x = new NightForecast();
        x.read(0, 0);
        counts(c, x, 0, 0, 1, 0, 0, 0);
        x.hush(0);
        counts(c, x, 0, 0, 2, 0, 0, 0);
        x.aunt(0, 1);
        counts(c, x, 0, 0, 3, 0, 0, 0);
        x.deaf(0, 1);
        counts(c, x, 0, 0, 4, 0, 0, 0);
    }

    private static void statusNights(Check c) {
        c.sentence(33, "3 nights(), chance()");
        NightForecast x = new NightForecast();
        x.nights(0);
        counts(c, x, 0, 0, 0, 1, 0, 0);
        x.chance(0);
        counts(c, x, 0, 0, 0, 2, 0, 0);
        x.undo();
        x.nights(5);
        x.chance(5);
        counts(c, x, 0, 0, 0, 2, 1, 0);
    }

    private static void statusUndo(Check c) {
        c.sentence(33, "4 undo()");
        NightForecast x = new NightForecast();
        x.undo();
        x.undo();
        counts(c, x, 0, 0, 0, 0, 2, 0);
        x.nights(1);
        x.undo();
        counts(c, x, 0, 0, 0, 0, 2, 0);
    }

    private static void statusSeedAndOn(Check c) {
        c.sentence(33, "5 seed(), on()");
        NightForecast x = new NightForecast();
        x.seed(-1);
        counts(c, x, 0, 0, 0, 0, 0, 1);
        x.on();
        counts(c, x, 0, 0, 0, 0, 0, 2);
        x.seed(0);
        c.turnOn(x, 3);
        counts(c, x, 0, 0, 0, 0, 0, 2);
    }

    private static void statusOthers(Check c) {
        c.sentence(33, "NONE for others");
        NightForecast x = new NightForecast();
        int[] others = {-1, 6, 7, Integer.MIN_VALUE, Integer.MAX_VALUE};
        for (int what : others) {
            c.due("status(" + what + ")", x.status(what), -1);
        }
        x.later(0, 0, 0);
        x.comes(0);
        x.self(0);
        x.say(0, 0, 0);
        x.aunts(0, 0);
        x.right(0, 0);
        x.rest(0);
        x.fits(0);
        x.tells(0, 0);
        x.octet(0);
        x.kept(0, 0);
        counts(c, x, 0, 0, 0, 0, 0, 0);
    }
}
