/** Promises 11 to 17, sentence by sentence: later, comes, self, say, aunts, right, rest. */
public final class AheadPromisesTest {
    private static final int[] NO_PART = {-1, -2, 2, 7, 8, 31, 32, Integer.MIN_VALUE, Integer.MAX_VALUE};
    private static final int[] NO_COUNT = {-1, Integer.MIN_VALUE, Integer.MAX_VALUE};
    private static final String UP = "part a air 0;part b air 3;says air+1;";

    public static void main(String[] args) {
        Check c = new Check("AheadPromisesTest");
        laterAir(c);
        laterGales(c);
        laterNone(c);
        comesFirst(c);
        comesNone(c);
        selfBits(c);
        selfNone(c);
        sayNumber(c);
        sayRise(c);
        sayNone(c);
        auntsBits(c);
        auntsNotEnough(c);
        auntsNone(c);
        rightStations(c);
        rightNights(c);
        rightNone(c);
        restBits(c);
        restNoSet(c);
        restNone(c);
        c.finish();
    }

    /** UP at a night, its PARTS at air 0 and 3. */
    private static NightForecast upAt(Check c, int night) {
        NightForecast x = c.city(UP);
        c.turnOn(x, night, 0, 0, 255, 3, 0, 255);
        return x;
    }

    private static void laterAir(Check c) {
        c.sentence(11, "Behind n NIGHTS AHEAD (0 .. 60): 0 the air of a PART");
        NightForecast x = c.city("part a air 0;part b air 3;turns night/3;");
        c.due("later(0, 0, 0): now", x.later(0, 0, 0), 0);
        c.due("later(1, 0, 0): now", x.later(1, 0, 0), 3);
        c.due("later(1, 1, 0)", x.later(1, 1, 0), 0);
        c.due("later(1, 4, 0)", x.later(1, 4, 0), 1);
        c.due("later(0, 59, 0)", x.later(0, 59, 0), 19);
        c.due("later(0, 60, 0)", x.later(0, 60, 0), 19);
        x.nights(1);
        c.due("later(0, 60, 0) from now on", x.later(0, 60, 0), 20);
        x = c.city(UP);
        x.read(0, 9);
        c.due("later(0, 1, 0) by an ACT", x.later(0, 1, 0), 9);
        c.due("later(0, 2, 0): it is over", x.later(0, 2, 0), 10);
        c.due("has(2): no NIGHT has passed", x.has(2), 0);
        c.due("tonight(0, 0): the ACT is there", x.tonight(0, 0), 9);
        c.due("later(0, 0, 0) at 999", upAt(c, 999).later(0, 0, 0), 0);
    }

    private static void laterGales(Check c) {
        c.sentence(11, "1 in how many PARTS there is a GALE");
        NightForecast x = c.city(UP + "gale 5;");
        c.due("later(0, 0, 1)", x.later(0, 0, 1), 0);
        c.due("later(0, 1, 1)", x.later(0, 1, 1), 0);
        c.due("later(0, 2, 1)", x.later(0, 2, 1), 1);
        c.due("later(1, 4, 1)", x.later(1, 4, 1), 1);
        c.due("later(0, 5, 1)", x.later(0, 5, 1), 2);
        c.due("later(0, 60, 1)", x.later(0, 60, 1), 2);
    }

    private static void laterNone(Check c) {
        c.sentence(11, "NONE when there is none such, n can't be, or for others");
        NightForecast x = c.city(UP);
        for (int p : NO_PART) {
            c.due("later(" + p + ", 1, 0)", x.later(p, 1, 0), -1);
            c.due("later(" + p + ", 1, 1)", x.later(p, 1, 1), -1);
        }
        for (int n : NO_COUNT) {
            c.due("later(0, " + n + ", 0)", x.later(0, n, 0), -1);
            c.due("later(0, " + n + ", 1)", x.later(0, n, 1), -1);
        }
        c.due("later(0, 61, 0)", x.later(0, 61, 0), -1);
        c.due("later(0, 61, 1)", x.later(0, 61, 1), -1);
        c.due("later(0, 60, 0) at 939", upAt(c, 939).later(0, 60, 0), 20);
        c.due("later(0, 60, 0) at 940", upAt(c, 940).later(0, 60, 0), -1);
        c.due("later(0, 1, 0) at 998", upAt(c, 998).later(0, 1, 0), 1);
        c.due("later(0, 1, 0) at 999", upAt(c, 999).later(0, 1, 0), -1);
        int[] others = {-1, 2, Integer.MIN_VALUE, Integer.MAX_VALUE};
        for (int what : others) {
            c.due("later(0, 1, " + what + ")", x.later(0, 1, what), -1);
        }
    }

    private static void comesFirst(Check c) {
        c.sentence(12, "Behind how many NIGHTS AHEAD (0: now) there is a GALE in a PART first");
        NightForecast x = c.city(UP);
        c.due("comes(0)", x.comes(0), 15);
        c.due("comes(1)", x.comes(1), 12);
        x.read(0, 15);
        c.due("comes(0) tonight", x.comes(0), 1);
        x.nights(1);
        c.due("comes(0) now", x.comes(0), 0);
        x = c.city("part a air 20;turns (1-air/20)*20;");
        c.due("comes(0): the first, not the next", x.comes(0), 0);
        x.nights(1);
        c.due("comes(0)", x.comes(0), 1);
        x = c.city("part a air 0;turns night/59*20;");
        c.due("comes(0): the 60th", x.comes(0), 60);
        c.due("comes(0) at 999: now", atLast(c, 15).comes(0), 0);
    }

    private static NightForecast atLast(Check c, int air) {
        NightForecast x = c.city("part a air 0;says 20;");
        c.turnOn(x, 999, air, 0, 255);
        return x;
    }

    private static void comesNone(Check c) {
        c.sentence(12, "NONE when there is none, or none such");
        NightForecast x = c.city("part a air 0;part b air 14;turns night/60*20;");
        c.due("comes(0): the 61st", x.comes(0), -1);
        c.due("comes(1): never", c.city("part a air 1;part b air 14;").comes(1), -1);
        for (int p : NO_PART) {
            c.due("comes(" + p + ")", x.comes(p), -1);
        }
        c.due("comes(0) at 984", upAt(c, 984).comes(0), 15);
        c.due("comes(0) at 985", upAt(c, 985).comes(0), -1);
        c.due("comes(0) at 999", atLast(c, 14).comes(0), -1);
    }

    private static void selfBits(Check c) {
        c.sentence(13, "SELF of a PART, as bits");
        c.due("self(0): all", c.city("part a air 4;").self(0), (1 << 21) - 1);
        c.due("self(0): the least", c.city("part a air 4;turns told/2;").self(0), 1);
        c.due("self(0): the greatest", c.city("part a air 4;turns told+1;").self(0), 1 << 20);
        c.due("self(0): none", c.city("part a air 4;turns 1-told;").self(0), 0);
        c.due("self(0): DEAF", c.city("part a air 4;deaf a;").self(0), 1 << 4);
        NightForecast x = c.city("part a air 4;part b air 6;near a b;turns (told+most)/2;");
        c.due("self(0)", x.self(0), 3 << 5);
        c.due("self(1)", x.self(1), 3 << 3);
        c.due("has(9): nothing is READ by it", x.has(9), 0);
        c.due("tonight(0, 0)", x.tonight(0, 0), 4);
        c.due("self(0) at 999", atLast(c, 4).self(0), (1 << 21) - 1);
    }

    private static void selfNone(Check c) {
        c.sentence(13, "NONE when there is none such");
        NightForecast x = c.city(UP);
        for (int p : NO_PART) {
            c.due("self(" + p + ")", x.self(p), -1);
        }
    }

    private static void sayNumber(Check c) {
        c.sentence(14, "To SAY for a PART, n NIGHTS AHEAD (1 .. 20): the number (what 0)");
        NightForecast x = c.city("part a air 0;part b air 0;turns 20-told;gale 5;");
        c.due("say(0, 1, 0)", x.say(0, 1, 0), 16);
        c.due("say(0, 2, 0)", x.say(0, 2, 0), 10);
        c.due("say(1, 1, 0)", x.say(1, 1, 0), 16);
        x = c.city("part a air 20;turns told+night/19*20;");
        c.due("say(0, 19, 0): none rises", x.say(0, 19, 0), 0);
        c.due("say(0, 20, 0): a GALE that stays rises on no NIGHT", x.say(0, 20, 0), 15);
        x = c.city("part a air 0;turns 20-told;gale 1;");
        c.due("say(0, 1, 0): the greatest number", x.say(0, 1, 0), 20);
    }

    private static void sayRise(Check c) {
        c.sentence(14, "how many GALES rise then (1)");
        NightForecast x = c.city("part a air 0;part b air 0;turns 20-told;gale 5;");
        c.due("say(0, 1, 1): the other's", x.say(0, 1, 1), 1);
        x = c.city("part a air 0;turns (1-air/20)*20;");
        c.due("say(0, 1, 1)", x.say(0, 1, 1), 1);
        c.due("say(0, 2, 1)", x.say(0, 2, 1), 1);
        c.due("say(0, 19, 1)", x.say(0, 19, 1), 10);
        c.due("say(0, 20, 1)", x.say(0, 20, 1), 10);
        c.due("has(2): no NIGHT has passed", x.has(2), 0);
        c.due("has(7): nothing is KEPT by it", x.has(7), 0);
        c.due("say(0, 1, 1): none", c.city("part a air 0;").say(0, 1, 1), 0);
    }

    private static void sayNone(Check c) {
        c.sentence(14, "NONE when there is none such, n can't be, or for others");
        NightForecast x = c.city(UP);
        for (int p : NO_PART) {
            c.due("say(" + p + ", 1, 0)", x.say(p, 1, 0), -1);
            c.due("say(" + p + ", 1, 1)", x.say(p, 1, 1), -1);
        }
        for (int n : NO_COUNT) {
            c.due("say(0, " + n + ", 0)", x.say(0, n, 0), -1);
        }
        for (int what = 0; what < 2; what++) {
            c.due("say(0, 0, " + what + ")", x.say(0, 0, what), -1);
            c.due("say(0, 20, " + what + ")", x.say(0, 20, what) >= 0, true);
            c.due("say(0, 21, " + what + ")", x.say(0, 21, what), -1);
        }
        c.due("say(0, 20, 1) at 979", upAt(c, 979).say(0, 20, 1), 2);
        c.due("say(0, 20, 1) at 980", upAt(c, 980).say(0, 20, 1), -1);
        c.due("say(0, 1, 0) at 998", upAt(c, 998).say(0, 1, 0), 0);
        c.due("say(0, 1, 0) at 999", upAt(c, 999).say(0, 1, 0), -1);
        int[] others = {-1, 2, Integer.MIN_VALUE, Integer.MAX_VALUE};
        for (int what : others) {
            c.due("say(0, 1, " + what + ")", x.say(0, 1, what), -1);
        }
    }

    private static final String STAR = "part m air 0;part a air 16;part b air 17;part d air 18;part e air 19;"
        + "near m a;near m b;near d m;near m e;turns max(told,most);";

    private static void auntsBits(Check c) {
        c.sentence(15, "AUNTS for a PART, n NIGHTS AHEAD (1 .. 30), as bits");
        NightForecast x = c.city(STAR + "aunt b;");
        c.due("aunts(0, 1): three", x.aunts(0, 1), 2 + 8 + 16);
        c.due("aunts(0, 30): three", x.aunts(0, 30), 2 + 8 + 16);
        x.aunt(3, 1);
        c.due("aunts(0, 1): two", x.aunts(0, 1), 2 + 16);
        x.aunt(1, 1);
        c.due("aunts(0, 1): one", x.aunts(0, 1), 16);
        x.aunt(4, 1);
        c.due("aunts(0, 1): none is wanted", x.aunts(0, 1), 0);
        c.due("has(4): none comes by it", x.has(4), 4);
        x = c.city("part m air 0;part a air 0;near m a;turns told+night/29*min(most,air)+night/29*20;");
        c.due("aunts(0, 29)", x.aunts(0, 29), 0);
        c.due("aunts(0, 30)", x.aunts(0, 30), -1);
    }

    private static void auntsNotEnough(Check c) {
        c.sentence(15, "NONE when 3 are not enough");
        NightForecast x = c.city(STAR);
        c.due("aunts(0, 1): four would be", x.aunts(0, 1), -1);
        c.due("aunts(1, 1): its own air", x.aunts(1, 1), -1);
        x.aunt(1, 1);
        c.due("aunts(0, 1)", x.aunts(0, 1), 4 + 8 + 16);
        x = c.city("part m air 20;");
        c.due("aunts(0, 1): there is no other PART", x.aunts(0, 1), -1);
    }

    private static void auntsNone(Check c) {
        c.sentence(15, "there is none such, or n can't be");
        NightForecast x = c.city(UP);
        for (int p : NO_PART) {
            c.due("aunts(" + p + ", 1)", x.aunts(p, 1), -1);
        }
        for (int n : NO_COUNT) {
            c.due("aunts(0, " + n + ")", x.aunts(0, n), -1);
        }
        x = c.city("part a air 0;part b air 3;");
        c.due("aunts(0, 0)", x.aunts(0, 0), -1);
        c.due("aunts(0, 1)", x.aunts(0, 1), 0);
        c.due("aunts(0, 30)", x.aunts(0, 30), 0);
        c.due("aunts(0, 31)", x.aunts(0, 31), -1);
        c.turnOn(x, 969, 0, 0, 255, 3, 0, 255);
        c.due("aunts(0, 30) at 969", x.aunts(0, 30), 0);
        c.turnOn(x, 970, 0, 0, 255, 3, 0, 255);
        c.due("aunts(0, 30) at 970", x.aunts(0, 30), -1);
        c.turnOn(x, 999, 0, 0, 255, 3, 0, 255);
        c.due("aunts(0, 1) at 999", x.aunts(0, 1), -1);
    }

    private static void rightStations(Check c) {
        c.sentence(16, "A STATION (0 the bureau, 1 the RIVAL)");
        NightForecast x = c.city("part a air 4;part b air 9;says 3;rival 7;turns air/9*7+(1-air/9)*3;");
        c.due("right(0, 1)", x.right(0, 1), 1);
        c.due("right(1, 1)", x.right(1, 1), 1);
        c.due("right(0, 2)", x.right(0, 2), 3);
        c.due("right(1, 2)", x.right(1, 2), 1);
    }

    private static void rightNights(Check c) {
        c.sentence(16, "n NIGHTS AHEAD (1 .. 60): how often it is right");
        NightForecast x = c.city("part a air 4;part b air 9;");
        c.due("right(0, 1)", x.right(0, 1), 2);
        c.due("right(0, 60)", x.right(0, 60), 120);
        c.due("right(1, 60)", x.right(1, 60), 120);
        x.read(0, 5);
        c.due("right(1, 60): wrong tonight", x.right(1, 60), 119);
        c.due("right(0, 60) of no PARTS", new NightForecast().right(0, 60), 0);
        c.due("right(1, 60) of no PARTS", new NightForecast().right(1, 60), 0);
        c.due("right(0, 1): never", c.city("part a air 4;turns told+1;").right(0, 1), 0);
        c.due("has(2): no NIGHT has passed", x.has(2), 0);
    }

    private static void rightNone(Check c) {
        c.sentence(16, "NONE when n can't be, or for others");
        NightForecast x = c.city(UP);
        for (int station = 0; station < 2; station++) {
            for (int n : NO_COUNT) {
                c.due("right(" + station + ", " + n + ")", x.right(station, n), -1);
            }
            c.due("right(" + station + ", 0)", x.right(station, 0), -1);
            c.due("right(" + station + ", 61)", x.right(station, 61), -1);
            c.due("right(" + station + ", 60) at 939", upAt(c, 939).right(station, 60) >= 0, true);
            c.due("right(" + station + ", 60) at 940", upAt(c, 940).right(station, 60), -1);
            c.due("right(" + station + ", 1) at 999", upAt(c, 999).right(station, 1), -1);
        }
        int[] others = {-1, 2, Integer.MIN_VALUE, Integer.MAX_VALUE};
        for (int station : others) {
            c.due("right(" + station + ", 1)", x.right(station, 1), -1);
        }
    }

    private static void restBits(Check c) {
        c.sentence(17, "At REST, n NIGHTS AHEAD (1 .. 30), as bits");
        NightForecast x = c.city("part a air 4;part b air 9;part d air 2;says 6;");
        c.due("rest(1)", x.rest(1), 1 + 4);
        c.due("rest(30)", x.rest(30), 1 + 4);
        c.due("has(5): none is DEAF by it", x.has(5), 0);
        x = c.city("part a air 4;says air+night/29;");
        c.due("rest(29): alike", x.rest(29), 0);
        c.due("rest(30): by the last NIGHT", x.rest(30), 1);
        c.due("rest(1) of no PARTS", new NightForecast().rest(1), 0);
        StringBuilder seven = new StringBuilder("says 1;");
        for (char name = 'a'; name < 'h'; name++) {
            seven.append("part ").append(name).append(" air 0;");
        }
        c.due("rest(1): all seven", c.city(seven.toString()).rest(1), 127);
    }

    /**
     * The air behind the first NIGHT tells who listened (2 or 12, else 1 or 11). By the second one part a has less air
     * when both did alike, part b when they did not: of the four sets none is at rest.
     */
    private static void restNoSet(Check c) {
        c.sentence(17, "NONE when no set is");
        String unlike = "(max(air,most)-min(air,most)-10)";
        String second = "5*(air/11+" + unlike + "*" + unlike + "-2*(air/11)*" + unlike + "*" + unlike + ")";
        NightForecast x = c.city("part a air 1;part b air 11;near a b;says air+1;turns (1-night)*told+night*" + second + ";");
        c.due("rest(1)", x.rest(1), 3);
        c.due("rest(2)", x.rest(2), -1);
        x.aunt(0, 1);
        c.due("later(1, 2, 0): part b by itself", x.later(1, 2, 0), 0);
        c.due("rest(2): part b heeds no other", x.rest(2) >= 0, true);
    }

    private static void restNone(Check c) {
        c.sentence(17, "or n can't be");
        NightForecast x = c.city("part a air 0;part b air 3;");
        for (int n : NO_COUNT) {
            c.due("rest(" + n + ")", x.rest(n), -1);
        }
        c.due("rest(0)", x.rest(0), -1);
        c.due("rest(1)", x.rest(1), 0);
        c.due("rest(30)", x.rest(30), 0);
        c.due("rest(31)", x.rest(31), -1);
        c.turnOn(x, 969, 0, 0, 255, 3, 0, 255);
        c.due("rest(30) at 969", x.rest(30), 0);
        c.turnOn(x, 970, 0, 0, 255, 3, 0, 255);
        c.due("rest(30) at 970", x.rest(30), -1);
        c.turnOn(x, 999, 0, 0, 255, 3, 0, 255);
        c.due("rest(1) at 999", x.rest(1), -1);
    }
}
