/** Promises 18 to 20, sentence by sentence: see, fits, tells. */
public final class SeenPromisesTest {
    private static final int ALL = (1 << 21) - 1;
    private static final int[] NO_PART = {-1, -2, 2, 7, 8, 31, 32, Integer.MIN_VALUE, Integer.MAX_VALUE};
    private static final String TWO = "part a air 4;part b air 9;";

    public static void main(String[] args) {
        Check c = new Check("SeenPromisesTest");
        seeTakesTheTape(c);
        seeRows(c);
        seeHowMany(c);
        seeRefused(c);
        seeNoneSuch(c);
        fitsBits(c);
        fitsBeyond(c);
        fitsNone(c);
        tellsNight(c);
        tellsLeft(c);
        tellsWithoutNumber(c);
        tellsNoNight(c);
        tellsNone(c);
        c.finish();
    }

    private static void refused(Check c, NightForecast x, int... rows) {
        String before = Check.all(x);
        int count = x.status(1);
        Check.tell(x, rows);
        c.due("see() of " + java.util.Arrays.toString(rows), x.see(), -1);
        c.due("status(1)", x.status(1), count + 1);
        c.due("all stays", Check.all(x), before);
    }

    private static void seeTakesTheTape(Check c) {
        c.sentence(18, "The tape (it goes) tells what is SEEN");
        NightForecast x = c.city(TWO);
        c.see(x, 0, 0, 7);
        c.due("end(1) behind it", x.end(1), false);
        c.due("fits(0)", x.fits(0), 1 << 7);
        c.see(x, 0, 0, 8);
        c.due("fits(0): what was told ahead is SEEN no more", x.fits(0), 1 << 8);
        Check.tell(x, 0, 0, 21);
        c.due("see()", x.see(), -1);
        c.due("end(1) behind a refusal", x.end(1), false);
    }

    private static void seeRows(Check c) {
        c.sentence(18, "1 to 16 rows of three bytes");
        NightForecast x = c.city(TWO);
        refused(c, x);
        c.see(x, 0, 0, 4);
        int[] sixteen = new int[48];
        for (int k = 0; k < 16; k++) {
            sixteen[3 * k] = k;
            sixteen[3 * k + 2] = 6;
        }
        c.see(x, sixteen);
        c.due("fits(0) of 16 rows", x.fits(0), 1 << 6);
        sixteen[47] = 5;
        c.see(x, sixteen);
        c.due("fits(0): the 16th row counts", x.fits(0), 0);
        int[] lengths = {1, 2, 4, 5, 47, 49, 50, 51, 54, 96, 1599};
        for (int length : lengths) {
            x = c.city(TWO);
            c.see(x, sixteen);
            refused(c, x, new int[length]);
            c.due("has(8) stays", x.has(8), 16);
        }
    }

    private static void seeHowMany(Check c) {
        c.sentence(18, "how many rows");
        NightForecast x = c.city(TWO);
        for (int rows = 1; rows <= 16; rows++) {
            Check.tell(x, new int[3 * rows]);
            c.due("see() of " + rows, x.see(), rows);
        }
        Check.tell(x, 0, 0, 4, 0, 0, 4);
        c.due("see() of like rows", x.see(), 2);
    }

    private static void seeRefused(Check c) {
        c.sentence(18, "NONE, refused (1), all staying, when it is none such");
        int[][] wrong = {{31, 0, 4}, {255, 0, 4}, {0, 2, 4}, {0, 255, 4}, {0, 0, 4, 31, 1, 4}, {0, 0, 4, 0, 7, 4}};
        for (int[] rows : wrong) {
            NightForecast x = c.city(TWO);
            x.read(0, 7);
            c.see(x, 1, 0, 7, 0, 1, 9);
            refused(c, x, rows);
            c.due("has(8)", x.has(8), 2);
            c.due("fits(0)", x.fits(0), ALL);
            c.due("fits(1)", x.fits(1), 1 << 9);
            c.due("fault(0): it has no FAULT", x.fault(0), 0);
        }
        c.see(c.city(TWO), 30, 1, 20);
        refused(c, new NightForecast(), 0, 0, 0);
    }

    private static void seeNoneSuch(Check c) {
        c.sentence(18, "(air above 20, too)");
        NightForecast x = c.city(TWO);
        c.see(x, 0, 0, 20);
        refused(c, x, 0, 0, 21);
        refused(c, x, 0, 0, 255);
        refused(c, x, 0, 0, 4, 1, 1, 21);
        c.due("fits(0) stays", x.fits(0), 1 << 20);
    }

    private static void fitsBits(Check c) {
        c.sentence(19, "Numbers of a PART by what is SEEN (all, if nothing is), as bits");
        NightForecast x = c.city(TWO + "near a b;says (air+most)/2;");
        c.due("fits(0): nothing is SEEN", x.fits(0), ALL);
        c.due("fits(1): nothing is SEEN", x.fits(1), ALL);
        c.see(x, 1, 0, 7);
        c.due("fits(0)", x.fits(0), (1 << 5) | (1 << 6));
        c.due("fits(1)", x.fits(1), (1 << 10) | (1 << 11));
        c.see(x, 0, 0, 0);
        c.due("fits(0): the least", x.fits(0), 1);
        c.see(x, 0, 0, 20);
        c.due("fits(0): the greatest", x.fits(0), 1 << 20);
        c.due("fits(1): none", x.fits(1), 0);
        c.due("part(0, 0): nothing turns by it", x.part(0, 0), 4);
        c.see(x, 0, 0, 4);
        c.due("fits(1): all", x.fits(1), ALL);
    }

    private static void fitsBeyond(Check c) {
        c.sentence(19, "NIGHTS beyond 999 are by none");
        NightForecast x = c.city("part a air 4;");
        c.turnOn(x, 969, 4, 0, 255);
        c.see(x, 30, 0, 4);
        c.due("fits(0) at 969", x.fits(0), 1 << 4);
        c.turnOn(x, 970, 4, 0, 255);
        c.due("fits(0) at 970", x.fits(0), 0);
        c.see(x, 29, 0, 4, 0, 0, 4);
        c.due("fits(0) at 970 of 29", x.fits(0), 1 << 4);
        c.see(x, 0, 0, 4, 30, 0, 4, 1, 0, 4);
        c.due("fits(0) at 970: one row of three", x.fits(0), 0);
        c.turnOn(x, 999, 4, 0, 255);
        c.see(x, 0, 0, 6);
        c.due("fits(0) at 999 of now", x.fits(0), 1 << 6);
        c.see(x, 1, 0, 6);
        c.due("fits(0) at 999 of the next", x.fits(0), 0);
        x = c.city("part a air 4;");
        x.nights(100);
        c.see(x, 1, 0, 4);
        c.due("fits(0) far ahead of 999", x.fits(0), 1 << 4);
    }

    private static void fitsNone(Check c) {
        c.sentence(19, "NONE when there is none such");
        NightForecast x = c.city(TWO);
        for (int p : NO_PART) {
            c.due("fits(" + p + ")", x.fits(p), -1);
        }
        c.due("fits(0) without PARTS", new NightForecast().fits(0), -1);
    }

    private static void tellsNight(Check c) {
        c.sentence(20, "TELLING for a PART: the NIGHT (what 0)");
        NightForecast x = c.city("part a air 4;part b air 9;near a b;turns (1-min(night,1))*most/8+min(night,1)*most;");
        c.due("tells(0, 0)", x.tells(0, 0), 2);
        c.due("tells(1, 0)", x.tells(1, 0), 2);
        c.due("tells(0, 0): the first", c.city("part a air 4;").tells(0, 0), 1);
        x = c.city("part a air 4;part b air 9;near a b;turns (1-min(night,1))*most+night/29*most;");
        c.due("tells(0, 0): the air is gone behind the 2nd", x.tells(0, 0), 1);
        c.due("has(2): no NIGHT has passed", x.has(2), 0);
    }

    private static void tellsLeft(Check c) {
        c.sentence(20, "how many are left at the most (1)");
        c.due("tells(0, 1): one", c.city("part a air 4;").tells(0, 1), 1);
        c.due("tells(0, 1): all", c.city("part a air 4;turns 3;").tells(0, 1), 21);
        c.due("tells(0, 1): halves", c.city("part a air 4;turns told/11;").tells(0, 1), 11);
        NightForecast x = c.city("part a air 4;turns told/11;");
        c.see(x, 1, 0, 1);
        c.due("tells(0, 1) of those that fit", x.tells(0, 1), 10);
        c.see(x, 0, 0, 7);
        c.due("tells(0, 1) of one that fits", x.tells(0, 1), 1);
    }

    private static void tellsWithoutNumber(Check c) {
        c.sentence(20, "NONE without a number");
        NightForecast x = c.city(TWO);
        c.see(x, 0, 0, 4, 0, 0, 5);
        c.due("fits(0)", x.fits(0), 0);
        c.due("tells(0, 0)", x.tells(0, 0), -1);
        c.due("tells(0, 1)", x.tells(0, 1), -1);
        c.see(x, 0, 0, 5);
        c.due("tells(0, 0) of one number", x.tells(0, 0), 1);
        c.due("tells(1, 0) of none", x.tells(1, 0), -1);
        c.due("tells(1, 1) of none", x.tells(1, 1), -1);
    }

    private static void tellsNoNight(Check c) {
        c.sentence(20, "when no NIGHT comes");
        NightForecast x = c.city("part a air 4;turns told/11;");
        c.turnOn(x, 999, 4, 0, 255);
        c.due("tells(0, 0) at 999", x.tells(0, 0), -1);
        c.due("tells(0, 1) at 999", x.tells(0, 1), -1);
        c.turnOn(x, 998, 4, 0, 255);
        c.due("tells(0, 0) at 998", x.tells(0, 0), 1);
        c.due("tells(0, 1) at 998", x.tells(0, 1), 11);
    }

    private static void tellsNone(Check c) {
        c.sentence(20, "there is none such, or for others");
        NightForecast x = c.city(TWO);
        for (int p : NO_PART) {
            c.due("tells(" + p + ", 0)", x.tells(p, 0), -1);
            c.due("tells(" + p + ", 1)", x.tells(p, 1), -1);
        }
        int[] others = {-1, 2, Integer.MIN_VALUE, Integer.MAX_VALUE};
        for (int what : others) {
            c.due("tells(0, " + what + ")", x.tells(0, what), -1);
        }
    }
}
