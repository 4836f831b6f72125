/** Terms II, sentence by sentence: what is read and told, a night, acts, draws. */
public final class NightTermsTest {
    public static void main(String[] args) {
        Check c = new Check("NightTermsTest");
        nightAtFirst(c);
        readIsClipped(c);
        readByActs(c);
        rivalLikewise(c);
        toldIs(c);
        galeIs(c);
        nightTurns(c);
        readIsTrue(c);
        actsAreOver(c);
        nightIsOneMore(c);
        acts(c);
        slips(c);
        lastTwenty(c);
        keptRises(c);
        lastForty(c);
        draws(c);
        c.finish();
    }

    private static void nightAtFirst(Check c) {
        c.term(6, "It is NIGHT 0 at first.");
        c.due("has(2) of a new object", new NightForecast().has(2), 0);
        NightForecast x = c.city("part a air 4;says night;");
        c.due("has(2) of a new city", x.has(2), 0);
        c.due("tonight(0, 0)", x.tonight(0, 0), 0);
        x.nights(5);
        Check.tell(x, "part a air 4;");
        x.city();
        c.due("has(2) of another city", x.has(2), 0);
    }

    private static void readIsClipped(Check c) {
        c.term(9, "What is READ for a PART tonight is the SUM of says, 0 .. 20 (below is 0, above 20)");
        String[] sums = {"0", "20", "21", "9999", "0-1", "0-9999", "19", "1", "air", "air-5", "air+17"};
        int[] due = {0, 20, 20, 20, 0, 0, 19, 1, 4, 0, 20};
        for (int k = 0; k < sums.length; k++) {
            NightForecast x = c.city("part a air 4;says " + sums[k] + ";");
            c.due("READ of says " + sums[k], x.tonight(0, 0), due[k]);
            c.due("TOLD of says " + sums[k], x.tonight(0, 2), due[k]);
        }
    }

    private static void readByActs(Check c) {
        c.term(9, "but where an ACT tells otherwise, or that nothing is READ");
        NightForecast x = c.city("part a air 4;part b air 5;says 7;");
        x.read(0, 0);
        c.due("tonight(0, 0)", x.tonight(0, 0), 0);
        c.due("tonight(1, 0)", x.tonight(1, 0), 7);
        x.read(0, 20);
        c.due("tonight(0, 0)", x.tonight(0, 0), 20);
        x.hush(0);
        c.due("tonight(0, 0)", x.tonight(0, 0), -1);
        x.read(0, 3);
        c.due("tonight(0, 0): the latest ACT", x.tonight(0, 0), 3);
    }

    private static void rivalLikewise(Check c) {
        c.term(9, "what the RIVAL says likewise, by rival.");
        String[] sums = {"0", "20", "21", "0-1", "air-5", "air+17", "19"};
        int[] due = {0, 20, 20, 0, 0, 20, 19};
        for (int k = 0; k < sums.length; k++) {
            c.due("RIVAL by " + sums[k], c.city("part a air 4;rival " + sums[k] + ";").tonight(0, 1), due[k]);
        }
    }

    private static void toldIs(Check c) {
        c.term(9, "What a PART is TOLD is what is READ, but its own air, if nothing is, or it is DEAF.");
        NightForecast x = c.city("part a air 4;part b air 5;deaf b;says 7;");
        c.due("tonight(0, 2)", x.tonight(0, 2), 7);
        c.due("tonight(1, 2)", x.tonight(1, 2), 5);
        x.read(0, 0);
        x.read(1, 0);
        c.due("tonight(0, 2) by an ACT", x.tonight(0, 2), 0);
        c.due("tonight(1, 2) by an ACT", x.tonight(1, 2), 5);
        x.hush(0);
        x.hush(1);
        c.due("tonight(0, 2) of nothing", x.tonight(0, 2), 4);
        c.due("tonight(1, 2) of nothing", x.tonight(1, 2), 5);
        x.deaf(1, 0);
        x.read(1, 3);
        c.due("tonight(1, 2) when it listens", x.tonight(1, 2), 3);
    }

    private static void galeIs(Check c) {
        c.term(8, "A GALE is air of as much as gale, or more.");
        NightForecast x = c.city("part a air 9;part b air 10;part d air 11;gale 10;");
        c.due("part(0, 4)", x.part(0, 4), 0);
        c.due("part(1, 4)", x.part(1, 4), 1);
        c.due("part(2, 4)", x.part(2, 4), 1);
        c.due("has(3)", x.has(3), 2);
        c.due("later(0, 0, 1)", x.later(0, 0, 1), 2);
        c.due("comes(1)", x.comes(1), 0);
        c.due("comes(0)", x.comes(0), -1);
        c.ask(x, "total gales", 6);
    }

    private static void nightTurns(Check c) {
        c.term(25, "A NIGHT: all PARTS, by what is ahead of it, have as air the SUM of turns, 0 .. 20, then.");
        NightForecast x = c.city("part a air 1;part b air 2;part d air 3;near a b;near b d;turns most;");
        x.nights(1);
        c.due("part(0, 0)", x.part(0, 0), 2);
        c.due("part(1, 0)", x.part(1, 0), 3);
        c.due("part(2, 0): by what was ahead", x.part(2, 0), 2);
        x = c.city("part a air 14;part b air 15;turns gales;");
        x.nights(1);
        c.due("part(1, 0): the GALES ahead", x.part(1, 0), 1);
        x = c.city("part a air 4;turns night;");
        x.nights(1);
        c.due("part(0, 0): the NIGHT ahead", x.part(0, 0), 0);
        x.nights(1);
        c.due("part(0, 0): the NIGHT ahead", x.part(0, 0), 1);
        x.nights(30);
        c.due("part(0, 0): 20 at most", x.part(0, 0), 20);
        x = c.city("part a air 4;turns air-3;");
        x.nights(2);
        c.due("part(0, 0): 0 at least", x.part(0, 0), 0);
        x = c.city("part a air 4;says 25;turns told-1;");
        x.nights(1);
        c.due("part(0, 0): TOLD is 20", x.part(0, 0), 19);
    }

    private static void readIsTrue(Check c) {
        c.term(16, "What was READ is TRUE, if the air is just so then; nothing READ is not TRUE.");
        NightForecast x = c.city("part a air 4;part b air 5;turns told;");
        c.due("right(0, 1)", x.right(0, 1), 2);
        x.hush(0);
        c.due("right(0, 1): nothing READ, the air stays", x.right(0, 1), 1);
        x = c.city("part a air 4;says 8;turns 9;");
        c.due("right(0, 1): one below", x.right(0, 1), 0);
        x.read(0, 10);
        c.due("right(0, 1): one above", x.right(0, 1), 0);
        x.read(0, 9);
        c.due("right(0, 1): just so", x.right(0, 1), 1);
        x = c.city("part a air 0;turns 0-1;");
        c.due("right(0, 1): as air is, not as the SUM", x.right(0, 1), 1);
        x.hush(0);
        c.due("right(0, 1): nothing READ is no number below 0", x.right(0, 1), 0);
        c.due("self(0) of a DEAF one", c.city("part a air 4;deaf a;says 4;").self(0), 1 << 4);
    }

    private static void actsAreOver(Check c) {
        c.term(25, "THEN what ACTS told of tonight is over.");
        NightForecast x = c.city("part a air 4;part b air 5;says 7;");
        x.read(0, 3);
        x.hush(1);
        x.nights(1);
        c.due("tonight(0, 0)", x.tonight(0, 0), 7);
        c.due("tonight(1, 0)", x.tonight(1, 0), 7);
        x.image();
        c.due("octet(4)", x.octet(4), 255);
        c.due("octet(7)", x.octet(7), 255);
        x.read(0, 3);
        x.nights(2);
        c.due("part(0, 0): for one NIGHT alone", x.part(0, 0), 7);
        x.read(0, 3);
        x.chance(1);
        c.due("tonight(0, 0) behind chance()", x.tonight(0, 0), 7);
        x.aunt(0, 1);
        x.deaf(1, 1);
        x.nights(1);
        c.due("part(0, 1): an aunt stays", x.part(0, 1), 1);
        c.due("part(1, 2): DEAF stays", x.part(1, 2), 1);
    }

    private static void nightIsOneMore(Check c) {
        c.term(25, "The NIGHT is one more (999 at most).");
        NightForecast x = c.city("part a air 4;");
        for (int night = 1; night <= 3; night++) {
            x.nights(1);
            c.due("has(2)", x.has(2), night);
        }
        c.turnOn(x, 998, 4, 0, 255);
        c.due("nights(2) at 998", x.nights(2), -1);
        c.due("chance(2) at 998", x.chance(2), -1);
        c.due("has(2)", x.has(2), 998);
        c.due("nights(1) at 998", x.nights(1), 0);
        c.due("has(2)", x.has(2), 999);
        c.due("nights(1) at 999", x.nights(1), -1);
        c.due("chance(1) at 999", x.chance(1), -1);
        c.due("has(2)", x.has(2), 999);
        c.due("read(0, 3) at 999", x.read(0, 3), true);
        c.due("tonight(0, 3) at 999", x.tonight(0, 3), 3);
    }

    private static void acts(Check c) {
        c.term(27, "ACTS: for a PART a number is READ tonight; nothing is READ for it; an aunt comes to it, or goes;");
        c.term(27, "it is DEAF, or listens; NIGHTS; NIGHTS by the seed");
        NightForecast x = c.city("part a air 4;slip 100;");
        boolean[] did = {
            x.read(0, 3), x.hush(0), x.aunt(0, 1), x.aunt(0, 0), x.deaf(0, 1), x.deaf(0, 0), x.nights(2) == 0, x.chance(2) == 2
        };
        for (int k = 0; k < did.length; k++) {
            c.due("ACT " + k, did[k], true);
        }
        c.due("has(9)", x.has(9), did.length);
        x.seed(3);
        x.image();
        c.see(x, 0, 0, 4);
        c.ask(x, "total 1", 1);
        c.due("has(9): none of these", x.has(9), did.length);
        for (int k = 0; k < did.length; k++) {
            c.due("undo()", x.undo(), true);
        }
        c.due("has(2)", x.has(2), 0);
        c.due("has(8): what is SEEN is no ACT", x.has(8), 1);
    }

    private static long drawn;

    private static int draw(int m) {
        drawn = (1103515245L * drawn + 12345L) % 2147483648L;
        return (int) (drawn / 64 % m);
    }

    private static void slips(Check c) {
        c.term(26, "ahead of each a DRAW of 100: below slip, if there are PARTS, a DRAW of these, a DRAW of 21: that is READ there.");
        for (int slip = 0; slip <= 100; slip += 10) {
            NightForecast x = c.city("part a air 4;part b air 5;part d air 6;deaf d;turns told;slip " + slip + ";");
            drawn = 1;
            int[] air = {4, 5, 6};
            int slips = 0;
            for (int k = 0; k < 30; k++) {
                if (draw(100) < slip) {
                    int part = draw(3);
                    int number = draw(21);
                    air[part] = part == 2 ? 6 : number;
                    slips++;
                }
            }
            c.due("chance(30) of slip " + slip, x.chance(30), slips);
            for (int p = 0; p < 3; p++) {
                c.due("part(" + p + ", 0) of slip " + slip, x.part(p, 0), air[p]);
            }
        }
        justBelow(c);
        NightForecast x = c.city("part a air 4;slip 100;turns told;");
        x.hush(0);
        drawn = 1;
        draw(100);
        draw(1);
        x.chance(1);
        c.due("part(0, 0): over what an ACT told", x.part(0, 0), draw(21));
        x = c.city("slip 100;");
        c.due("chance(3) without PARTS", x.chance(3), 0);
        drawn = 1;
        draw(100);
        draw(100);
        draw(100);
        Check.tell(x, "part a air 4;slip 100;");
        x.city();
        draw(100);
        draw(1);
        x.chance(1);
        c.due("part(0, 0): without PARTS one DRAW a NIGHT", x.part(0, 0), draw(21));
    }

    /** The first DRAW of 100 by a seed is a slip when it is one below, not when it is as much as slip. */
    private static void justBelow(Check c) {
        for (int seed = 0; seed < 20; seed++) {
            drawn = seed;
            int first = draw(100);
            NightForecast x = c.city("part a air 4;slip " + first + ";");
            x.seed(seed);
            c.due("chance(1) of a DRAW of slip", x.chance(1), 0);
            x = c.city("part a air 4;slip " + (first + 1) + ";");
            x.seed(seed);
            c.due("chance(1) of a DRAW one below slip", x.chance(1), 1);
        }
    }

    private static void lastTwenty(Check c) {
        c.term(27, "The last 20 can be undone.");
        NightForecast x = c.city("part a air 4;");
        for (int k = 0; k < 20; k++) {
            x.nights(1);
        }
        for (int k = 0; k < 20; k++) {
            c.due("undo() " + k + " of 20", x.undo(), true);
        }
        c.due("has(2)", x.has(2), 0);
        c.due("undo() 21 of 20", x.undo(), false);
        for (int k = 0; k < 21; k++) {
            x.nights(1);
        }
        for (int k = 0; k < 20; k++) {
            c.due("undo() " + k + " of 21", x.undo(), true);
        }
        c.due("undo() 21 of 21", x.undo(), false);
        c.due("has(2): the first stays", x.has(2), 1);
        for (int k = 0; k < 57; k++) {
            x.nights(1);
        }
        for (int k = 0; k < 13; k++) {
            x.undo();
        }
        x.nights(3);
        x.nights(3);
        c.due("has(9)", x.has(9), 9);
        for (int k = 0; k < 9; k++) {
            c.due("undo() behind others", x.undo(), true);
        }
        c.due("has(2)", x.has(2), 38);
        c.due("undo()", x.undo(), false);
    }

    private static void keptRises(Check c) {
        c.term(10, "KEPT is each GALE that rises (there was none in that PART ahead of the NIGHT): NIGHT, PART, air");
        NightForecast x = c.city("part a air 14;part b air 15;part d air 20;says air+1;");
        c.due("nights(1)", x.nights(1), 1);
        c.due("has(7)", x.has(7), 1);
        c.due("kept(0, 0)", x.kept(0, 0), 0);
        c.due("kept(0, 1)", x.kept(0, 1), 0);
        c.due("kept(0, 2)", x.kept(0, 2), 15);
        c.due("nights(9): they stay, and rise no more", x.nights(9), 0);
        c.due("has(7)", x.has(7), 1);
        x.read(1, 14);
        x.nights(1);
        c.due("nights(1): it rises again", x.nights(1), 1);
        c.due("kept(1, 0)", x.kept(1, 0), 11);
        c.due("kept(1, 1)", x.kept(1, 1), 1);
        x = c.city("part a air 0;slip 100;gale 1;");
        x.chance(40);
        c.due("has(7) by chance()", x.has(7) > 0, true);
        c.due("kept(0, 2) by chance()", x.kept(0, 2) >= 1, true);
    }

    private static void lastForty(Check c) {
        c.term(10, "the last 40 are told.");
        NightForecast x = c.city("part a air 0;part b air 20;turns 20-air;");
        x.nights(40);
        c.due("has(7) of 40", x.has(7), 40);
        c.due("kept(0, 0) of 40", x.kept(0, 0), 0);
        x.nights(1);
        c.due("has(7) of 41", x.has(7), 40);
        c.due("kept(0, 0) of 41", x.kept(0, 0), 1);
        c.due("kept(0, 1) of 41", x.kept(0, 1), 1);
        c.due("kept(39, 0) of 41", x.kept(39, 0), 40);
        c.due("kept(39, 1) of 41", x.kept(39, 1), 0);
        c.due("kept(40, 0) of 41", x.kept(40, 0), -1);
        x.undo();
        c.due("kept(0, 0) undone", x.kept(0, 0), 0);
        c.due("kept(39, 0) undone", x.kept(39, 0), 39);
        c.due("kept(39, 1) undone", x.kept(39, 1), 1);
        c.due("kept(39, 2) undone", x.kept(39, 2), 20);
    }

    private static void draws(Check c) {
        c.term(26, "A DRAW of m: x (the seed) becomes (1103515245 x + 12345) mod 2 to the 31; floor(x / 64) mod m.");
        NightForecast x = c.city("part a air 0;slip 100;");
        // By hand, from 1 on: 1103527590, 377401575, 662824084; the last one by 64 is 10356626, mod 21 it is 14.
        x.chance(1);
        c.due("part(0, 0) by the seed 1", x.part(0, 0), 14);
        int[] seeds = {0, 1, 5, 123456789, Integer.MAX_VALUE - 1, Integer.MAX_VALUE};
        for (int seed : seeds) {
            x.seed(seed);
            drawn = seed;
            for (int k = 0; k < 5; k++) {
                draw(100);
                draw(1);
                x.chance(1);
                c.due("part(0, 0) by the seed " + seed, x.part(0, 0), draw(21));
            }
        }
    }
}
