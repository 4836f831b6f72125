/** Terms III, sentence by sentence: nights ahead, self, say, aunts, stations, rest, seen, telling. */
public final class AheadTermsTest {
    private static final int ALL = (1 << 21) - 1;

    public static void main(String[] args) {
        Check c = new Check("AheadTermsTest");
        ahead(c);
        self(c);
        sayFewest(c);
        sayLikeOnes(c);
        auntsFewest(c);
        auntsNoGale(c);
        auntsLikeOnes(c);
        stationIsRight(c);
        bureau(c);
        rival(c);
        atRest(c);
        restLikeOnes(c);
        seenRows(c);
        seenNumbers(c);
        telling(c);
        tellingLikeOnes(c);
        c.finish();
    }

    private static void ahead(Check c) {
        c.term(11, "AHEAD are NIGHTS as they come from now on without DRAWS (60 at most, not beyond NIGHT 999).");
        NightForecast x = c.city("part a air 0;says air+1;slip 100;");
        x.read(0, 3);
        for (int n = 1; n <= 60; n++) {
            c.due("later(0, " + n + ", 0)", x.later(0, n, 0), Math.min(20, 2 + n));
        }
        c.due("later(0, 61, 0)", x.later(0, 61, 0), -1);
        x.nights(10);
        c.due("later(0, 1, 0) from now on", x.later(0, 1, 0), 13);
        NightForecast y = c.city("part a air 0;says air+1;slip 100;");
        c.turnOn(y, 944, 0, 0, 255);
        c.due("later(0, 55, 0) at 944", y.later(0, 55, 0), 20);
        c.due("later(0, 56, 0) at 944", y.later(0, 56, 0), -1);
        c.due("right(0, 55) at 944", y.right(0, 55), 55);
        c.due("right(0, 56) at 944", y.right(0, 56), -1);
        c.due("comes(0) at 984", at(c, 984).comes(0), 15);
        c.due("comes(0) at 985", at(c, 985).comes(0), -1);
        x = c.city("part a air 0;says air+1;slip 100;");
        y = c.city("part a air 0;says air+1;slip 100;");
        x.later(0, 60, 0);
        x.comes(0);
        x.say(0, 20, 0);
        x.aunts(0, 30);
        x.right(0, 60);
        x.rest(30);
        c.due("no DRAW is made by them", Check.usedUp(x), Check.usedUp(y));
    }

    private static NightForecast at(Check c, int night) {
        NightForecast x = c.city("part a air 0;says air+1;");
        c.turnOn(x, night, 0, 0, 255);
        return x;
    }

    private static void self(Check c) {
        c.term(13, "SELF of a PART are numbers (0 .. 20) that are TRUE, if they are READ there tonight.");
        NightForecast x = c.city("part a air 4;part b air 8;near a b;turns (told+most)/2;says 0;");
        c.due("self(0)", x.self(0), (1 << 7) | (1 << 8));
        x.read(0, 3);
        c.due("self(0): over an ACT", x.self(0), (1 << 7) | (1 << 8));
        x.hush(0);
        c.due("self(0): over hush()", x.self(0), (1 << 7) | (1 << 8));
        c.due("self(0): all of 0 .. 20", c.city("part a air 4;").self(0), ALL);
        c.due("self(0): of 0 alone", c.city("part a air 4;turns told/21;").self(0), 1);
        c.due("self(0): of 20 alone", c.city("part a air 4;turns told*2+1;").self(0), 1 << 20);
        c.due("self(0): DEAF, the air stays", c.city("part a air 4;deaf a;").self(0), 1 << 4);
        x = c.city("part a air 4;part b air 8;near a b;turns most;");
        c.due("self(0): it is heard by none", x.self(0), 1 << 8);
        x.read(1, 3);
        c.due("self(0): what is READ for others tonight turns nothing yet", x.self(0), 1 << 8);
    }

    private static void sayFewest(Check c) {
        c.term(14, "To SAY for a PART is a number, READ there tonight, by which fewest GALES rise in n NIGHTS AHEAD (of all PARTS)");
        NightForecast x = c.city("part a air 0;part b air 0;near a b;turns max(told,20-most*5);says 0;gale 10;");
        c.due("say(0, 1, 1): both rise, whatever is READ", x.say(0, 1, 1), 2);
        x = c.city("part a air 4;part b air 4;near a b;turns (1-min(night,1))*told+min(night,1)*(20-most*5);says 4;gale 10;");
        c.due("say(0, 1, 0)", x.say(0, 1, 0), 0);
        c.due("say(0, 1, 1)", x.say(0, 1, 1), 0);
        c.due("say(0, 2, 0): for the other's sake", x.say(0, 2, 0), 3);
        c.due("say(0, 2, 1): for the other's sake", x.say(0, 2, 1), 0);
        x = c.city("part a air 0;part b air 14;says air+1;");
        c.due("say(0, 1, 1): of all PARTS", x.say(0, 1, 1), 1);
        x = c.city("part a air 0;turns (21-told)*20;");
        c.due("say(0, 1, 0): 21 would do, but is no number", x.say(0, 1, 0), 20);
        c.due("say(0, 1, 1): 21 would do, but is no number", x.say(0, 1, 1), 1);
        x = c.city("part a air 20;turns told;gale 5;");
        c.due("say(0, 1, 1): one that stays does not rise", x.say(0, 1, 1), 0);
        x.read(0, 19);
        c.due("say(0, 1, 0): over an ACT", x.say(0, 1, 0), 0);
    }

    private static void sayLikeOnes(Check c) {
        c.term(14, ", of like ones one that is TRUE, of like ones the least.");
        c.due("the only true one", c.city("part a air 3;turns 7;").say(0, 1, 0), 7);
        c.due("the least true one", c.city("part a air 3;turns max(told,7);").say(0, 1, 0), 7);
        c.due("the least when all are true", c.city("part a air 3;").say(0, 1, 0), 0);
        c.due("the least when none is true", c.city("part a air 3;turns 1-told;").say(0, 1, 0), 0);
        NightForecast x = c.city("part a air 3;turns 20-told;gale 5;");
        c.due("fewest GALES ahead of what is true", x.say(0, 1, 0), 16);
        c.due("self(0)", x.self(0), 1 << 10);
        x = c.city("part a air 3;part b air 1;near a b;turns (told+2*most)/3;");
        c.due("self(0)", x.self(0), 3);
        c.due("say(0, 1, 0)", x.say(0, 1, 0), 0);
        x = c.city("part a air 3;turns told/4*4+3;gale 20;");
        c.due("self(0)", x.self(0), (1 << 3) | (1 << 7) | (1 << 11) | (1 << 15) | (1 << 19) | (1 << 20));
        c.due("say(0, 1, 0): the least of the true ones", x.say(0, 1, 0), 3);
    }

    private static final String STAR = "part m air 0;part a air 16;part b air 17;part d air 18;part e air 19;"
        + "near m a;near m b;near d m;near m e;";

    private static void auntsFewest(Check c) {
        c.term(15, "AUNTS are the fewest PARTS (3 at most, of those without one; not the told one) to which aunts come now");
        NightForecast x = c.city(STAR + "turns max(told,most);");
        c.due("four would be wanted", x.aunts(0, 1), -1);
        x.aunt(1, 1);
        c.due("three, of those without one", x.aunts(0, 1), 4 + 8 + 16);
        x = c.city(STAR + "turns max(told,most-2);");
        c.due("three: of 16 alone it turns to 14", x.aunts(0, 1), 4 + 8 + 16);
        x = c.city(STAR + "turns max(told,most-3);");
        c.due("two: of 17 it turns to 14", x.aunts(0, 1), 8 + 16);
        x = c.city(STAR + "turns max(told,most-4);");
        c.due("one: of 18 it turns to 14", x.aunts(0, 1), 16);
        x = c.city(STAR + "turns max(told,most-5);");
        c.due("none is wanted", x.aunts(0, 1), 0);
        x = c.city("part a air 14;part b air 17;near a b;turns (most+air)/2;");
        c.due("aunts(0, 1): at the other", x.aunts(0, 1), 2);
        c.due("aunts(1, 1): it would be 15", x.aunts(1, 1), -1);
        x = c.city(STAR + "turns max(told,most-4);");
        x.aunts(0, 1);
        c.due("has(4): they come for a look alone", x.has(4), 0);
        x = c.city("part a air 4;part b air 20;near a b;turns least;");
        c.due("not at the told one", x.aunts(1, 2), -1);
    }

    private static void auntsNoGale(Check c) {
        c.term(15, "so that in a PART there is no GALE behind any of 1 .. n NIGHTS");
        NightForecast x = c.city("part a air 20;turns 3;");
        c.due("a GALE now is none of these", x.aunts(0, 1), 0);
        x = c.city("part a air 0;turns (1-min(night,1))*20;");
        c.due("one behind the first NIGHT", x.aunts(0, 1), -1);
        c.due("one behind the first NIGHT, none behind the last", x.aunts(0, 5), -1);
        x = c.city("part a air 0;turns night/4*20;");
        c.due("none behind four", x.aunts(0, 4), 0);
        c.due("one behind the fifth", x.aunts(0, 5), -1);
        x = c.city("part a air 14;part b air 0;says 14;");
        c.due("just below", x.aunts(0, 30), 0);
        x = c.city("part a air 14;part b air 0;says 15;");
        c.due("just so much", x.aunts(0, 30), -1);
        x = c.city("part a air 20;part b air 0;near a b;turns air;");
        c.due("a GALE of another PART is none of these", x.aunts(1, 30), 0);
    }

    private static void auntsLikeOnes(Check c) {
        c.term(15, "NIGHTS; of like ones the least bits.");
        NightForecast x = c.city("part a air 10;part m air 0;part b air 0;near a m;near m b;turns (most-least)*2;");
        c.due("aunts(1, 1): either would do", x.aunts(1, 1), 1);
        x = c.city("part m air 0;part b air 0;part a air 10;near a m;near m b;turns (most-least)*2;");
        c.due("aunts(0, 1): either would do", x.aunts(0, 1), 2);
        x = c.city("part m air 0;part a air 5;part b air 5;part d air 5;part e air 14;near m a;near m b;near m d;near m e;"
            + "turns (most-least)*2;");
        c.due("aunts(0, 1): the last one, though three others would do", x.aunts(0, 1), 16);
        x = c.city("part m air 0;part a air 0;part b air 16;part d air 16;near a b;near b d;near m b;near m d;"
            + "near m a;turns max(most,air);gale 16;aunt a;");
        c.due("two of two", x.aunts(0, 1), 4 + 8);
        x = c.city("part a air 9;part b air 9;part m air 0;part d air 9;near a m;near b m;near d m;turns least+9;");
        c.due("aunts(2, 1): it has 18 until all three have one, then 9", x.aunts(2, 1), 1 + 2 + 8);
        x = c.city("part a air 16;part m air 0;part b air 16;part d air 16;near m a;near m b;near m d;"
            + "turns gales*0+most/16*16;gale 16;aunt d;");
        c.due("both", x.aunts(1, 1), 1 + 4);
        x = c.city("part a air 8;part b air 7;part m air 9;part d air 20;near a m;near b m;near d b;near d a;"
            + "turns (1-min(night,1))*(most+least)/2+min(night,1)*(most+7);gale 15;");
        c.due("aunts(2, 2)", x.aunts(2, 2), either(x, 2, 2));
    }

    /** The fewest and least by trying each set with ACTS. */
    private static int either(NightForecast x, int part, int n) {
        int best = -1;
        for (int set = (1 << x.has(0)) - 1; set >= 0; set--) {
            if ((set >> part & 1) == 1 || Integer.bitCount(set) > 3) {
                continue;
            }
            int acts = 0;
            boolean fine = true;
            for (int p = 0; p < x.has(0); p++) {
                if ((set >> p & 1) == 1) {
                    fine &= x.aunt(p, 1);
                    acts++;
                }
            }
            for (int k = 1; k <= n; k++) {
                x.nights(1);
                fine &= x.part(part, 4) == 0;
                acts++;
            }
            for (int k = 0; k < acts; k++) {
                x.undo();
            }
            if (fine && (best < 0 || Integer.bitCount(set) <= Integer.bitCount(best))) {
                best = set;
            }
        }
        return best;
    }

    private static void stationIsRight(Check c) {
        c.term(16, "A STATION is right as often as what it says is TRUE in n NIGHTS AHEAD, as they come (of all PARTS");
        NightForecast x = c.city("part a air 4;part b air 9;near a b;turns most;");
        c.due("right(0, 1)", x.right(0, 1), 0);
        c.due("right(1, 1)", x.right(1, 1), 2);
        c.due("right(1, 60)", x.right(1, 60), 120);
        x = c.city("part a air 4;part b air 9;says 20-air;turns air+1;");
        c.due("right(0, 16): a says 10 at 10, 11 never; b says 10 at 10", x.right(0, 16), 0);
        x = c.city("part a air 4;part b air 9;says 20-air;turns air+2;");
        c.due("right(0, 2): b alone, tonight", x.right(0, 2), 1);
        c.due("right(0, 2): a too, later", x.right(0, 3), 1);
        c.due("right(0, 60): at 20 it is never so", x.right(0, 60), 1);
    }

    private static void bureau(Check c) {
        c.term(16, "the bureau by what is READ, also by ACTS");
        NightForecast x = c.city("part a air 4;part b air 9;turns 7;says 7;rival 7;");
        c.due("right(0, 2)", x.right(0, 2), 4);
        x.read(0, 6);
        c.due("right(0, 2): a wrong ACT, tonight alone", x.right(0, 2), 3);
        x.hush(1);
        c.due("right(0, 2): nothing READ", x.right(0, 2), 2);
        c.due("right(1, 2): the RIVAL by no ACT", x.right(1, 2), 4);
        x = c.city("part a air 4;turns 7;says 6;");
        x.read(0, 7);
        c.due("right(0, 9): a true ACT", x.right(0, 9), 1);
        x = c.city("part a air 4;deaf a;says 4;");
        c.due("right(0, 9): READ for a DEAF one", x.right(0, 9), 9);
    }

    private static void rival(Check c) {
        c.term(16, "the RIVAL by what it says ahead of each).");
        NightForecast x = c.city("part a air 4;rival air+1;says air+1;turns told;");
        c.due("right(1, 16)", x.right(1, 16), 16);
        c.due("right(1, 60): 20 stays 20", x.right(1, 60), 60);
        x = c.city("part a air 4;rival 5;says air+1;turns told;");
        c.due("right(1, 60): tonight alone", x.right(1, 60), 1);
        x = c.city("part a air 4;rival night;says air;turns 3;");
        c.due("right(1, 60): on NIGHT 3 alone", x.right(1, 60), 1);
        c.due("right(1, 3)", x.right(1, 3), 0);
        c.due("right(1, 4)", x.right(1, 4), 1);
    }

    private static void atRest(Check c) {
        c.term(17, "At REST is a set of PARTS that are DEAF now (the others listen), of which none would have less air behind n NIGHTS,");
        c.term(17, " if it alone did otherwise");
        NightForecast x = c.city("part a air 4;part b air 9;says 6;");
        c.due("a is better DEAF, b listens", x.rest(1), 1);
        x.deaf(1, 1);
        c.due("b, DEAF now, would listen", x.rest(1), 1);
        x = c.city("part a air 6;part b air 6;says 6;deaf a;");
        c.due("it is all the same", x.rest(1), 0);
        x = c.city("part a air 6;part b air 6;says 7;");
        c.due("less by one", x.rest(1), 3);
        x = c.city("part a air 6;part b air 6;says 5;");
        c.due("more by one", x.rest(1), 0);
        x = c.city("part a air 4;part b air 9;says 6;");
        x.read(0, 3);
        c.due("by an ACT of tonight", x.rest(1), 0);
        x.hush(1);
        c.due("nothing READ is alike for both", x.rest(1), 0);
        x = c.city("part a air 10;says (1-min(night,1))*5+min(night,1)*20;");
        c.due("behind one NIGHT", x.rest(1), 0);
        c.due("behind two NIGHTS", x.rest(2), 1);
    }

    private static void restLikeOnes(Check c) {
        c.term(17, ": of the fewest, of like ones the least bits.");
        // Both would rather do as the other does: none and both are at rest, none is fewer.
        String unlike = "(max(air,most)-min(air,most))";
        NightForecast x = c.city("part a air 1;part b air 1;near a b;says air+1;turns (1-night)*told+night*" + unlike + ";");
        c.due("rest(2): none, though both would be", x.rest(2), 0);
        // Each would rather do otherwise than the other: one of them is at rest, the first is least.
        x = c.city("part a air 1;part b air 1;near a b;says air+1;turns (1-night)*told+night*(5-" + unlike + ");");
        c.due("rest(2): the first of two", x.rest(2), 1);
        c.due("rest(1)", x.rest(1), 3);
        x = c.city("part e air 1;part a air 1;part b air 1;near a b;says air+1;turns (1-night)*told+night*(5-" + unlike
            + ");aunt e;");
        c.due("rest(2) of three", x.rest(2), 2);
    }

    private static void seenRows(Check c) {
        c.term(18, "SEEN are rows of NIGHTS AHEAD (0 .. 30), PART, air");
        NightForecast x = c.city("part a air 4;part b air 9;turns told+night/29;");
        c.see(x, 0, 1, 9);
        c.due("fits(0)", x.fits(0), ALL);
        c.due("fits(1)", x.fits(1), 1 << 9);
        c.see(x, 30, 0, 5);
        c.due("fits(0) of the 30th", x.fits(0), 1 << 4);
        c.see(x, 29, 0, 5);
        c.due("fits(0) of the 29th", x.fits(0), 1 << 5);
        Check.tell(x, 31, 0, 5);
        c.due("see() of the 31st", x.see(), -1);
        c.see(x, 1, 0, 4);
        x.nights(1);
        c.due("fits(0): from now on", x.fits(0), 1 << 4);
        c.see(x, 0, 0, 0, 0, 0, 0);
        c.due("fits(0) of air 0", x.fits(0), 1);
        c.see(x, 0, 0, 20);
        c.due("fits(0) of air 20", x.fits(0), 1 << 20);
    }

    private static void seenNumbers(Check c) {
        c.term(19, ": numbers (0 .. 20) that a told PART's air can be now, so that all is so.");
        NightForecast x = c.city("part a air 4;part b air 9;near a b;says (air+most)/2;");
        c.see(x, 1, 0, 7, 2, 1, 7);
        c.due("fits(0): two rows", x.fits(0), (1 << 5) | (1 << 6));
        c.see(x, 1, 0, 7, 0, 0, 5);
        c.due("fits(0): of both rows", x.fits(0), 1 << 5);
        c.see(x, 0, 0, 5, 1, 0, 8);
        c.due("fits(0): not of both", x.fits(0), 0);
        c.see(x, 0, 1, 8);
        c.due("fits(0): the other is not so", x.fits(0), 0);
        c.due("fits(1): it can be so", x.fits(1), 1 << 8);
        x.read(0, 3);
        c.see(x, 1, 0, 3);
        c.due("fits(0): by an ACT, whatever it is", x.fits(0), ALL);
        x.deaf(0, 1);
        c.due("fits(0): DEAF", x.fits(0), 1 << 3);
    }

    private static void telling(Check c) {
        c.term(20, "TELLING is the NIGHT AHEAD (1 .. 30) by whose air of that PART, whatever it is, the most of these numbers left are fewest");
        NightForecast x = c.city("part a air 4;part b air 0;near a b;turns (1-min(night,1))*most/4+min(night,1)*most;");
        c.due("tells(0, 0)", x.tells(0, 0), 2);
        c.due("tells(0, 1)", x.tells(0, 1), 4);
        x = c.city("part a air 4;turns told/11;");
        c.due("tells(0, 0): 0 .. 10, 11 .. 20", x.tells(0, 0), 1);
        c.due("tells(0, 1): the greater half", x.tells(0, 1), 11);
        c.due("tells(0, 1): all are 20", c.city("part a air 4;turns 20;").tells(0, 1), 21);
        c.due("tells(0, 1): 10 .. 20 are 20", c.city("part a air 4;turns told*2;").tells(0, 1), 11);
        c.due("tells(0, 1): 0 .. 10 are 0", c.city("part a air 4;turns (told-10)*2;").tells(0, 1), 11);
        x = c.city("part a air 4;part b air 0;near a b;aunt a;turns (1-min(night,1))*3;");
        c.due("tells(0, 1): all are alike", x.tells(0, 1), 21);
        x = c.city("part a air 0;part b air 0;near a b;turns most;");
        c.due("tells(0, 0): it is back behind the 2nd", x.tells(0, 0), 2);
        c.due("tells(0, 1)", x.tells(0, 1), 1);
        c.see(x, 2, 0, 9);
        c.due("tells(0, 0): one number is left, always", x.tells(0, 0), 1);
        lastTelling(c);
    }

    /** On the first NIGHT the number goes to the other PART, and comes back behind the told NIGHT. */
    private static NightForecast away(Check c, int until) {
        String swap = "max(1-night,night/" + (until - 1) + ")";
        return c.city("part a air 4;part b air 6;near a b;turns " + swap + "*most+(1-" + swap + ")*air;");
    }

    private static void lastTelling(Check c) {
        c.due("tells(0, 0): away until the 29th", away(c, 29).tells(0, 0), 29);
        c.due("tells(0, 0): away until the 30th", away(c, 30).tells(0, 0), 30);
        c.due("tells(0, 1): away until the 30th", away(c, 30).tells(0, 1), 1);
        c.due("tells(0, 0): away until the 31st", away(c, 31).tells(0, 0), 1);
        c.due("tells(0, 1): away until the 31st", away(c, 31).tells(0, 1), 21);
    }

    private static void tellingLikeOnes(Check c) {
        c.term(20, "; of like ones the first.");
        NightForecast x = c.city("part a air 4;");
        c.due("tells(0, 0): each NIGHT tells all", x.tells(0, 0), 1);
        x = c.city("part a air 4;turns 3;");
        c.due("tells(0, 0): no NIGHT tells any", x.tells(0, 0), 1);
        c.due("tells(0, 1): no NIGHT tells any", x.tells(0, 1), 21);
        x = c.city("part a air 4;part b air 0;near a b;turns most;");
        c.due("tells(0, 0): each second one", x.tells(0, 0), 2);
    }
}
