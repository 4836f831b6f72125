/** Promises 1 to 5, sentence by sentence: a new object, feed, end, city, fault. */
public final class TextPromisesTest {
    private static final int BLANKS = 0x20202020;

    public static void main(String[] args) {
        Check c = new Check("TextPromisesTest");
        newObject(c);
        feedComesBehind(c);
        feedHighestFirst(c);
        feedHowMany(c);
        feedTooMany(c);
        endFirstBytes(c);
        endNotSoMany(c);
        endBelowZero(c);
        cityTakesTheTape(c);
        cityHowMany(c);
        cityRefused(c);
        cityAsAtFirst(c);
        cityNothingKept(c);
        citySeedStays(c);
        faultOfTheLatest(c);
        faultWithout(c);
        faultPlace(c);
        faultAnotherWhat(c);
        c.finish();
    }

    private static void newObject(Check c) {
        c.sentence(1, "No city, no parts.");
        NightForecast x = new NightForecast();
        for (int what = 0; what <= 9; what++) {
            c.due("has(" + what + ")", x.has(what), 0);
        }
        c.due("letter(0, 0)", x.letter(0, 0), -1);
        c.due("part(0, 0)", x.part(0, 0), -1);
        c.due("tonight(0, 0)", x.tonight(0, 0), -1);
        c.due("later(0, 0, 1)", x.later(0, 0, 1), -1);
        c.due("read(0, 0)", x.read(0, 0), false);
        c.due("feed()", x.feed(0, 0, 0, 0, 0), 20);
        c.due("nights(1)", new NightForecast().nights(1), 0);
        NightForecast y = new NightForecast();
        c.due("end(1)", y.end(1), false);
        c.due("end(0)", y.end(0), true);
    }

    private static void feedComesBehind(Check c) {
        c.sentence(2, "Twenty bytes come behind those on the tape");
        NightForecast x = new NightForecast();
        x.feed(0x20202020, 0x20202020, 0x20202020, 0x20202020, 0x20202020);
        x.feed(0x6f667465, 0x6e20616c, 0x6c202020, 0x20202020, 0x20202020);
        c.due("ask() of the second twenty behind blanks", x.ask(), 0);
        x.feed(0x746f7461, 0x6c202020, 0x20202020, 0x20202020, 0x20202020);
        c.due("end(6)", x.end(6), true);
        c.due("feed() behind six", x.feed(0x2b202020, BLANKS, BLANKS, BLANKS, BLANKS), 26);
        x.ask();
        c.due("fault(1): the byte behind six", x.fault(1), 6);
        for (int k = 0; k < 20; k++) {
            NightForecast y = new NightForecast();
            int[] five = {BLANKS, BLANKS, BLANKS, BLANKS, BLANKS};
            five[k / 4] ^= 3 << (24 - 8 * (k % 4));
            y.feed(five[0], five[1], five[2], five[3], five[4]);
            y.city();
            c.due("fault(1): byte " + k + " of twenty", y.fault(1), k);
        }
    }

    private static void feedHighestFirst(Check c) {
        c.sentence(2, "of each number the highest first");
        NightForecast x = c.city("part a air 4;");
        x.feed(0x0001141e, 0x00090000, 0, 0, 0);
        c.due("end(3)", x.end(3), true);
        c.due("see() of 0, 1, 20", x.see(), -1);
        x.feed(0x0000141e, 0x00090000, 0, 0, 0);
        x.end(6);
        c.due("see() of 0, 0, 20, 30, 0, 9", x.see(), 2);
        x.feed(0x00ff0000, 0x80, 0, 0, 0);
        x.city();
        c.due("fault(1): byte 0 is 0", x.fault(1), 0);
        x.feed(0x0a0a0a80, 0, 0, 0, 0);
        x.city();
        c.due("fault(1): the lowest byte is the last", x.fault(1), 3);
        x.feed(0xff202020, 0, 0, 0, 0);
        x.city();
        c.due("fault(1): the highest byte of a number below 0", x.fault(1), 0);
    }

    private static void feedHowMany(Check c) {
        c.sentence(2, "how many there are");
        NightForecast x = new NightForecast();
        c.due("feed() onto nothing", x.feed(1, 2, 3, 4, 5), 20);
        c.due("feed() onto 20", x.feed(1, 2, 3, 4, 5), 40);
        x.end(1);
        c.due("feed() onto 1", x.feed(1, 2, 3, 4, 5), 21);
        c.due("status(0)", x.status(0), 0);
    }

    private static void feedTooMany(Check c) {
        c.sentence(2, "NONE, refused (0), if there would be more than 1600");
        NightForecast x = new NightForecast();
        for (int k = 1; k <= 80; k++) {
            c.due("feed() " + k, x.feed(BLANKS, BLANKS, BLANKS, BLANKS, BLANKS), 20 * k);
        }
        c.due("status(0)", x.status(0), 0);
        c.due("feed() onto 1600", x.feed(0, 0, 0, 0, 0), -1);
        c.due("status(0)", x.status(0), 1);
        c.due("end(1600): the tape stays", x.end(1600), true);
        c.due("end(1581)", x.end(1581), true);
        c.due("feed() onto 1581", x.feed(0, 0, 0, 0, 0), -1);
        c.due("status(0)", x.status(0), 2);
        c.due("end(1582): nothing of it came", x.end(1582), false);
        c.due("end(1580)", x.end(1580), true);
        c.due("feed() onto 1580", x.feed(BLANKS, BLANKS, BLANKS, BLANKS, BLANKS), 1600);
        c.due("city() of 1600 blanks", x.city(), 0);
        c.due("feed() when the tape went", x.feed(0, 0, 0, 0, 0), 20);
    }

    private static void endFirstBytes(Check c) {
        c.sentence(3, "The tape has its first n bytes alone: true");
        NightForecast x = new NightForecast();
        c.due("end(0) of an empty tape", x.end(0), true);
        x.feed(0x67616c65, 0x20313b23, BLANKS, BLANKS, BLANKS);
        c.due("end(20) of 20", x.end(20), true);
        c.due("end(7)", x.end(7), true);
        c.due("city() of gale 1;", x.city(), 1);
        x.feed(0x23232323, 0, 0, 0, 0);
        c.due("end(0)", x.end(0), true);
        c.due("city() of nothing", x.city(), 0);
        x.feed(0x67616c65, 0x20313b23, BLANKS, BLANKS, BLANKS);
        x.end(8);
        c.due("city() of gale 1;#", x.city(), -1);
        c.due("fault(1)", x.fault(1), 7);
        c.due("status(0)", x.status(0), 0);
    }

    private static void endNotSoMany(Check c) {
        c.sentence(3, "false, refused (0), if it has not so many");
        NightForecast x = new NightForecast();
        c.due("end(1) of an empty tape", x.end(1), false);
        c.due("status(0)", x.status(0), 1);
        x.feed(BLANKS, BLANKS, BLANKS, BLANKS, BLANKS);
        c.due("end(21) of 20", x.end(21), false);
        c.due("end(max) of 20", x.end(Integer.MAX_VALUE), false);
        c.due("status(0)", x.status(0), 3);
        c.due("feed(): the tape stays", x.feed(0, 0, 0, 0, 0), 40);
        x.end(5);
        c.due("end(6) of 5", x.end(6), false);
        c.due("end(5) of 5", x.end(5), true);
        c.due("status(0)", x.status(0), 4);
    }

    private static void endBelowZero(Check c) {
        c.sentence(3, "or n is below 0");
        NightForecast x = new NightForecast();
        x.feed(0, 0, 0, 0, 0);
        c.due("end(-1)", x.end(-1), false);
        c.due("end(min)", x.end(Integer.MIN_VALUE), false);
        c.due("status(0)", x.status(0), 2);
        c.due("end(20): the tape stays", x.end(20), true);
    }

    private static void cityTakesTheTape(Check c) {
        c.sentence(4, "The tape (it goes) is THE CITY");
        NightForecast x = c.city("part a air 4;");
        c.due("end(1) behind a city", x.end(1), false);
        c.due("has(0)", x.has(0), 1);
        Check.tell(x, "part a air 4;#");
        c.due("city()", x.city(), -1);
        c.due("end(1) behind a refusal", x.end(1), false);
        Check.tell(x, "part b air 5;part a air 6;");
        c.due("city()", x.city(), 2);
        c.due("part(1, 0)", x.part(1, 0), 6);
    }

    private static void cityHowMany(Check c) {
        c.sentence(4, "how many STATEMENTS");
        c.city("", 0);
        c.city("\n ", 0);
        c.city("part a air 4;", 1);
        c.city("gale 1;gale 1;", 2);
        c.city("slip 1;".repeat(80), 80);
        NightForecast x = c.city("part a air 1;part b air 2;near a b;aunt a;deaf a;says 1;rival 1;turns 1;gale 1;slip 1;", 10);
        c.due("fault(0)", x.fault(0), 0);
    }

    private static NightForecast busy(Check c) {
        NightForecast x = c.city("part a air 4;part b air 9;near a b;gale 6;slip 50;says (air+most)/2;aunt b;");
        x.read(0, 20);
        x.nights(2);
        x.chance(3);
        x.deaf(1, 1);
        x.hush(0);
        x.read(1, 8);
        c.see(x, 2, 0, 9);
        return x;
    }

    private static void cityRefused(Check c) {
        c.sentence(4, "NONE, refused (1), with a FAULT (all stays)");
        String[] wrong = {
            "part z air 9;says 3;x", "part z air 21;", "part z air 1;part z", "says (((((((1", "says 1;says 2;", "gale 1",
            "slip 1;".repeat(81)
        };
        int[] faults = {1, 2, 3, 4, 5, 1, 5};
        String due = Check.usedUp(busy(c));
        for (int k = 0; k < wrong.length; k++) {
            NightForecast x = busy(c);
            Check.tell(x, wrong[k]);
            c.due("city() of " + wrong[k], x.city(), -1);
            c.due("fault(0) of " + wrong[k], x.fault(0), faults[k]);
            c.due("status(1)", x.status(1), 1);
            c.due("all, acts and seed behind " + wrong[k], Check.usedUp(x), due);
        }
    }

    private static void cityAsAtFirst(Check c) {
        c.sentence(4, "Without one all is as at first");
        String text = "part c air 3;part d air 4;";
        NightForecast x = busy(c);
        Check.tell(x, text);
        c.due("city()", x.city(), 2);
        c.due("all", Check.all(x), Check.all(c.city(text)));
        c.due("has(2)", x.has(2), 0);
        c.due("part(0, 3): none is near", x.part(0, 3), 0);
        c.due("part(1, 4): gale is 15", x.part(1, 4), 0);
        c.due("chance(50): slip is 0", x.chance(50), 0);
        x = c.city("part a air 4;");
        x.read(0, 9);
        x.nights(1);
        Check.tell(x, "part a air 4;");
        x.city();
        c.due("the same city is told again", Check.all(x), Check.all(c.city("part a air 4;")));
        Check.tell(x, "");
        c.due("city() of nothing", x.city(), 0);
        c.due("all of no city", Check.all(x), Check.all(new NightForecast()));
    }

    private static void cityNothingKept(Check c) {
        c.sentence(4, "nothing is KEPT, SEEN or can be undone");
        NightForecast x = busy(c);
        c.due("has(7) ahead", x.has(7) > 0, true);
        Check.tell(x, "part a air 4;part b air 9;");
        x.city();
        c.due("has(7)", x.has(7), 0);
        c.due("kept(0, 0)", x.kept(0, 0), -1);
        c.due("has(8)", x.has(8), 0);
        c.due("fits(0)", x.fits(0), (1 << 21) - 1);
        c.due("has(9)", x.has(9), 0);
        c.due("undo()", x.undo(), false);
        c.due("has(0)", x.has(0), 2);
    }

    private static void citySeedStays(Check c) {
        c.sentence(4, "the seed stays");
        String text = "part a air 4;slip 100;";
        NightForecast x = c.city("part b air 4;part d air 9;");
        x.seed(77);
        Check.tell(x, text);
        x.city();
        NightForecast due = c.city(text);
        due.seed(77);
        NightForecast first = c.city(text);
        x.chance(5);
        due.chance(5);
        first.chance(5);
        c.due("part(0, 0) by the seed 77", x.part(0, 0), due.part(0, 0));
        c.due("the seed 1 would tell another", first.part(0, 0) != due.part(0, 0), true);
        Check.tell(x, text);
        x.city();
        due = c.city(text);
        due.seed(77);
        due.chance(5);
        due.undo();
        x.chance(5);
        due.chance(5);
        c.due("part(0, 0) by the seed as drawn", x.part(0, 0), due.part(0, 0));
    }

    private static void faultOfTheLatest(Check c) {
        c.sentence(5, "Of the latest city() or ask()");
        NightForecast x = new NightForecast();
        Check.tell(x, "gale 0;");
        x.city();
        c.due("fault(0) of city()", x.fault(0), 2);
        c.due("fault(1) of city()", x.fault(1), 5);
        Check.tell(x, "often all]");
        x.ask();
        c.due("fault(0) of ask()", x.fault(0), 1);
        c.due("fault(1) of ask()", x.fault(1), 9);
        x.image();
        x.undo();
        x.see();
        x.on();
        x.feed(0, 0, 0, 0, 0);
        x.end(0);
        c.due("fault(0): other calls leave it", x.fault(0), 1);
        c.due("fault(1): other calls leave it", x.fault(1), 9);
        Check.tell(x, "often all");
        x.ask();
        c.due("fault(0) of a fine ask()", x.fault(0), 0);
        Check.tell(x, "gale 0;");
        x.city();
        Check.tell(x, "gale 1;");
        x.city();
        c.due("fault(0) of a fine city()", x.fault(0), 0);
        c.due("fault(1) of a fine city()", x.fault(1), -1);
    }

    private static void faultWithout(Check c) {
        c.sentence(5, "its FAULT (what 0; 0 without, and ahead of any)");
        c.due("fault(0) ahead of any", new NightForecast().fault(0), 0);
        c.due("fault(0) without", c.city("gale 1;").fault(0), 0);
        c.cityFault("#", 1, 0);
        c.cityFault("gale 0;", 2, 5);
        c.cityFault("aunt a;", 3, 5);
        c.cityFault("says (((((((", 4, 11);
        c.cityFault("says 1;says", 5, 7);
    }

    private static void faultPlace(Check c) {
        c.sentence(5, "its place (1; NONE without)");
        c.due("fault(1) ahead of any", new NightForecast().fault(1), -1);
        c.due("fault(1) without", c.city("gale 1;").fault(1), -1);
        c.cityFault("#", 1, 0);
        c.cityFault(" ".repeat(1599) + "#", 1, 1599);
        c.cityFault("gale" + " ".repeat(1596), 1, 1600);
    }

    private static void faultAnotherWhat(Check c) {
        c.sentence(5, "NONE for another what");
        NightForecast x = new NightForecast();
        Check.tell(x, "gale 0;");
        x.city();
        int[] others = {2, -1, 3, Integer.MIN_VALUE, Integer.MAX_VALUE};
        for (int what : others) {
            c.due("fault(" + what + ")", x.fault(what), -1);
        }
    }
}
