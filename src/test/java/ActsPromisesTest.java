import java.util.function.Predicate;

/** Promises 21 to 28, sentence by sentence: read, hush, aunt, deaf, nights, chance, undo, seed. */
public final class ActsPromisesTest {
    private static final int[] NO_PART = {-1, -2, 2, 7, 8, 31, 32, 33, Integer.MIN_VALUE, Integer.MAX_VALUE};
    private static final String TWO = "part a air 4;part b air 9;";

    public static void main(String[] args) {
        Check c = new Check("ActsPromisesTest");
        readNumber(c);
        readAlready(c);
        readNone(c);
        hushNothing(c);
        hushAlready(c);
        hushNone(c);
        auntComes(c);
        auntAlready(c);
        auntNone(c);
        deafIs(c);
        deafAlready(c);
        deafNone(c);
        nightsPass(c);
        nightsHowMany(c);
        nightsCannotBe(c);
        chanceBySeed(c);
        chanceOneAct(c);
        chanceSlips(c);
        chanceCannotBe(c);
        undoLatest(c);
        undoLastPart(c);
        undoSeed(c);
        undoNone(c);
        seedIs(c);
        seedBelow(c);
        seedAtFirst(c);
        c.finish();
    }

    private static void refused(Check c, NightForecast x, String call, boolean answer, String before) {
        c.due(call, answer, false);
        c.due(call + ": all stays", Check.all(x), before);
    }

    /** On an object of its own, as one may be used for 512 calls alone. */
    private static void refusedFirst(Check c, String text, String call, Predicate<NightForecast> act) {
        NightForecast x = c.city(text);
        String before = Check.all(x);
        refused(c, x, call, act.test(x), before);
        c.due("status(2) of " + call, x.status(2), 1);
    }

    private static void readNumber(Check c) {
        c.sentence(21, "A number (0 .. 20) is READ for a PART tonight: true");
        for (int number = 0; number <= 20; number++) {
            NightForecast x = c.city(TWO + "says 7;");
            c.due("read(0, " + number + ")", x.read(0, number), true);
            c.due("tonight(0, 0)", x.tonight(0, 0), number);
            c.due("tonight(1, 0)", x.tonight(1, 0), 7);
            c.due("has(9)", x.has(9), 1);
            x.nights(1);
            c.due("part(0, 0)", x.part(0, 0), number);
            c.due("tonight(0, 0) the NIGHT behind", x.tonight(0, 0), 7);
        }
        NightForecast x = c.city(TWO + "deaf a;");
        c.due("read(0, 3) for a DEAF one", x.read(0, 3), true);
        c.due("status(2)", x.status(2), 0);
        c.turnOn(x, 999, 4, 0, 255, 9, 0, 255);
        c.due("read(0, 3) at 999", x.read(0, 3), true);
    }

    private static void readAlready(Check c) {
        c.sentence(21, "false, refused (2), when an ACT tells it so already");
        NightForecast x = c.city(TWO);
        c.due("read(0, 4): says tells it so, no ACT", x.read(0, 4), true);
        String before = Check.all(x);
        refused(c, x, "read(0, 4) again", x.read(0, 4), before);
        c.due("status(2)", x.status(2), 1);
        c.due("read(1, 4): another PART", x.read(1, 4), true);
        c.due("read(0, 5): another number", x.read(0, 5), true);
        c.due("read(0, 4): and back", x.read(0, 4), true);
        c.due("hush(0)", x.hush(0), true);
        c.due("read(0, 4) behind hush()", x.read(0, 4), true);
        x.nights(1);
        c.due("read(0, 4): the ACT is over", x.read(0, 4), true);
        x.undo();
        c.due("read(0, 4): the ACT is undone", x.read(0, 4), true);
        c.turnOn(x, 5, 4, 0, 0, 9, 0, 255);
        c.due("read(0, 0): the image tells it so", x.read(0, 0), false);
        c.due("status(2)", x.status(2), 2);
    }

    private static void readNone(Check c) {
        c.sentence(21, "there are none such, or for others");
        for (int p : NO_PART) {
            refusedFirst(c, TWO, "read(" + p + ", 3)", x -> x.read(p, 3));
        }
        int[] others = {-1, 21, 254, 255, Integer.MIN_VALUE, Integer.MAX_VALUE};
        for (int number : others) {
            refusedFirst(c, TWO, "read(0, " + number + ")", x -> x.read(0, number));
        }
        refusedFirst(c, "", "read(0, 0) without PARTS", x -> x.read(0, 0));
    }

    private static void hushNothing(Check c) {
        c.sentence(22, "Nothing is READ for a PART tonight: true");
        NightForecast x = c.city(TWO + "says 7;");
        c.due("hush(0)", x.hush(0), true);
        c.due("tonight(0, 0)", x.tonight(0, 0), -1);
        c.due("tonight(0, 2)", x.tonight(0, 2), 4);
        c.due("tonight(1, 0)", x.tonight(1, 0), 7);
        c.due("has(9)", x.has(9), 1);
        x.nights(1);
        c.due("part(0, 0)", x.part(0, 0), 4);
        c.due("part(1, 0)", x.part(1, 0), 7);
        c.due("tonight(0, 0) the NIGHT behind", x.tonight(0, 0), 7);
    }

    private static void hushAlready(Check c) {
        c.sentence(22, "false, refused (2), when an ACT tells it so already");
        NightForecast x = c.city(TWO);
        x.hush(0);
        String before = Check.all(x);
        refused(c, x, "hush(0) again", x.hush(0), before);
        c.due("status(2)", x.status(2), 1);
        c.due("hush(1): another PART", x.hush(1), true);
        x.read(0, 3);
        c.due("hush(0) behind read()", x.hush(0), true);
        x.nights(1);
        c.due("hush(0): the ACT is over", x.hush(0), true);
        x.undo();
        c.due("hush(0): the ACT is undone", x.hush(0), true);
        c.turnOn(x, 5, 4, 0, 254, 9, 0, 255);
        c.due("hush(0): the image tells it so", x.hush(0), false);
        c.due("status(2)", x.status(2), 2);
    }

    private static void hushNone(Check c) {
        c.sentence(22, "or there is none such");
        for (int p : NO_PART) {
            refusedFirst(c, TWO, "hush(" + p + ")", x -> x.hush(p));
        }
        refusedFirst(c, "", "hush(0) without PARTS", x -> x.hush(0));
    }

    private static void auntComes(Check c) {
        c.sentence(23, "An aunt comes to a PART (on 1), or goes (0): true");
        NightForecast x = c.city(TWO + "near a b;turns most;");
        c.due("aunt(1, 1)", x.aunt(1, 1), true);
        c.due("part(1, 1)", x.part(1, 1), 1);
        c.due("part(0, 1)", x.part(0, 1), 0);
        c.due("tonight(0, 3): part b is not heeded", x.tonight(0, 3), 4);
        x.nights(1);
        c.due("part(1, 1): she stays", x.part(1, 1), 1);
        c.due("aunt(1, 0)", x.aunt(1, 0), true);
        c.due("part(1, 1)", x.part(1, 1), 0);
        c.due("has(9)", x.has(9), 3);
        c.due("status(2)", x.status(2), 0);
    }

    private static void auntAlready(Check c) {
        c.sentence(23, "false, refused (2), when it is so already");
        NightForecast x = c.city(TWO + "aunt b;");
        String before = Check.all(x);
        refused(c, x, "aunt(0, 0)", x.aunt(0, 0), before);
        refused(c, x, "aunt(1, 1)", x.aunt(1, 1), before);
        c.due("status(2)", x.status(2), 2);
        c.due("aunt(1, 0)", x.aunt(1, 0), true);
        c.due("aunt(1, 0) again", x.aunt(1, 0), false);
        c.due("status(2)", x.status(2), 3);
    }

    private static void auntNone(Check c) {
        c.sentence(23, "there is none such, or for others");
        String text = TWO + "aunt b;";
        for (int p : NO_PART) {
            refusedFirst(c, text, "aunt(" + p + ", 1)", x -> x.aunt(p, 1));
            refusedFirst(c, text, "aunt(" + p + ", 0)", x -> x.aunt(p, 0));
        }
        int[] others = {-1, 2, 3, Integer.MIN_VALUE, Integer.MAX_VALUE};
        for (int on : others) {
            refusedFirst(c, text, "aunt(0, " + on + ")", x -> x.aunt(0, on));
            refusedFirst(c, text, "aunt(1, " + on + ")", x -> x.aunt(1, on));
        }
    }

    private static void deafIs(Check c) {
        c.sentence(24, "A PART is DEAF (on 1), or listens (0): true");
        NightForecast x = c.city(TWO + "says 7;");
        c.due("deaf(1, 1)", x.deaf(1, 1), true);
        c.due("part(1, 2)", x.part(1, 2), 1);
        c.due("part(0, 2)", x.part(0, 2), 0);
        c.due("tonight(1, 2)", x.tonight(1, 2), 9);
        x.nights(1);
        c.due("part(1, 2): it stays so", x.part(1, 2), 1);
        c.due("part(1, 0)", x.part(1, 0), 9);
        c.due("deaf(1, 0)", x.deaf(1, 0), true);
        c.due("tonight(1, 2)", x.tonight(1, 2), 7);
        c.due("has(9)", x.has(9), 3);
        c.due("status(2)", x.status(2), 0);
    }

    private static void deafAlready(Check c) {
        c.sentence(24, "false, refused (2), when it is so already");
        NightForecast x = c.city(TWO + "deaf b;");
        String before = Check.all(x);
        refused(c, x, "deaf(0, 0)", x.deaf(0, 0), before);
        refused(c, x, "deaf(1, 1)", x.deaf(1, 1), before);
        c.due("status(2)", x.status(2), 2);
        c.due("deaf(1, 0)", x.deaf(1, 0), true);
        c.due("deaf(1, 0) again", x.deaf(1, 0), false);
        c.due("status(2)", x.status(2), 3);
    }

    private static void deafNone(Check c) {
        c.sentence(24, "there is none such, or for others");
        String text = TWO + "deaf b;";
        for (int p : NO_PART) {
            refusedFirst(c, text, "deaf(" + p + ", 1)", x -> x.deaf(p, 1));
            refusedFirst(c, text, "deaf(" + p + ", 0)", x -> x.deaf(p, 0));
        }
        int[] others = {-1, 2, 3, Integer.MIN_VALUE, Integer.MAX_VALUE};
        for (int on : others) {
            refusedFirst(c, text, "deaf(0, " + on + ")", x -> x.deaf(0, on));
            refusedFirst(c, text, "deaf(1, " + on + ")", x -> x.deaf(1, on));
        }
    }

    private static void nightsPass(Check c) {
        c.sentence(25, "n NIGHTS (1 .. 100)");
        NightForecast x = c.city("part a air 0;turns told+1-air/20*20;says air;");
        c.due("nights(1)", x.nights(1), 0);
        c.due("has(2)", x.has(2), 1);
        c.due("part(0, 0)", x.part(0, 0), 1);
        c.due("nights(100)", x.nights(100) >= 0, true);
        c.due("has(2)", x.has(2), 101);
        c.due("has(9): an ACT each", x.has(9), 2);
        c.due("undo()", x.undo(), true);
        c.due("has(2): all hundred are undone", x.has(2), 1);
        NightForecast none = new NightForecast();
        c.due("nights(100) without a city", none.nights(100), 0);
        c.due("has(2)", none.has(2), 100);
    }

    private static void nightsHowMany(Check c) {
        c.sentence(25, "how many GALES rose");
        NightForecast x = c.city("part a air 0;part b air 20;turns 20-air;");
        c.due("nights(1)", x.nights(1), 1);
        c.due("nights(3)", x.nights(3), 3);
        c.due("nights(100): also those no more told", x.nights(100), 100);
        c.due("has(7)", x.has(7), 40);
        c.due("nights(5): a GALE that stays", c.city("part a air 20;").nights(5), 0);
        c.due("nights(1): from 14 to 15", c.city("part a air 14;says 15;").nights(1), 1);
        c.due("nights(1): from 15 to 16", c.city("part a air 15;says 16;").nights(1), 0);
        c.due("nights(1): from 13 to 14", c.city("part a air 13;says 14;").nights(1), 0);
    }

    private static void nightsCannotBe(Check c) {
        c.sentence(25, "NONE, refused (3), when it can't be");
        NightForecast x = c.city(TWO);
        String before = Check.all(x);
        int[] wrong = {0, -1, 101, Integer.MIN_VALUE, Integer.MAX_VALUE};
        for (int n : wrong) {
            c.due("nights(" + n + ")", x.nights(n), -1);
            c.due("all stays", Check.all(x), before);
        }
        c.due("status(3)", x.status(3), wrong.length);
        c.turnOn(x, 899, 4, 0, 255, 9, 0, 255);
        c.due("nights(100) at 899", x.nights(100), 0);
        c.due("has(2)", x.has(2), 999);
        c.due("nights(1) at 999", x.nights(1), -1);
        c.turnOn(x, 900, 4, 0, 3, 9, 0, 255);
        c.due("nights(100) at 900", x.nights(100), -1);
        c.due("has(2): none of them passed", x.has(2), 900);
        c.due("tonight(0, 0): the ACT is there", x.tonight(0, 0), 3);
        c.due("has(9)", x.has(9), 0);
        c.due("nights(99) at 900", x.nights(99), 0);
        c.due("status(3)", x.status(3), wrong.length + 2);
    }

    private static long drawn;

    private static int draw(int m) {
        drawn = (1103515245L * drawn + 12345L) % 2147483648L;
        return (int) (drawn / 64 % m);
    }

    private static void chanceBySeed(Check c) {
        c.sentence(26, "n NIGHTS by the seed (1 .. 100)");
        NightForecast x = c.city("part a air 4;part b air 9;part d air 2;slip 60;");
        drawn = 1;
        int[] air = {4, 9, 2};
        int[] counts = {1, 2, 100, 7, 99};
        for (int n : counts) {
            for (int k = 0; k < n; k++) {
                if (draw(100) < 60) {
                    int part = draw(3);
                    air[part] = draw(21);
                }
            }
            x.chance(n);
            for (int p = 0; p < 3; p++) {
                c.due("part(" + p + ", 0) behind chance(" + n + ")", x.part(p, 0), air[p]);
            }
        }
        c.due("has(2)", x.has(2), 209);
    }

    private static void chanceOneAct(Check c) {
        c.sentence(26, "one ACT");
        NightForecast x = c.city(TWO + "slip 100;gale 3;");
        String before = Check.all(x);
        x.chance(50);
        c.due("has(9)", x.has(9), 1);
        c.due("has(2)", x.has(2), 50);
        c.due("undo()", x.undo(), true);
        c.due("all is undone", Check.all(x), before);
        for (int k = 0; k < 25; k++) {
            x.chance(2);
        }
        c.due("has(9)", x.has(9), 20);
    }

    private static void chanceSlips(Check c) {
        c.sentence(26, "how many slips");
        NightForecast x = c.city(TWO + "slip 100;");
        c.due("chance(1) of slip 100", x.chance(1), 1);
        c.due("chance(100) of slip 100", x.chance(100), 100);
        x = c.city(TWO + "slip 0;");
        c.due("chance(100) of slip 0", x.chance(100), 0);
        x = c.city(TWO);
        c.due("chance(100) without slip", x.chance(100), 0);
        x = c.city("slip 100;");
        c.due("chance(100) without PARTS", x.chance(100), 0);
        x = c.city(TWO + "slip 37;gale 1;");
        drawn = 1;
        int slips = 0;
        for (int k = 0; k < 80; k++) {
            if (draw(100) < 37) {
                draw(2);
                draw(21);
                slips++;
            }
        }
        c.due("chance(80) of slip 37", x.chance(80), slips);
    }

    private static void chanceCannotBe(Check c) {
        c.sentence(26, "NONE, refused (3), when it can't be");
        NightForecast x = c.city("part a air 4;part b air 9;slip 100;");
        String before = Check.all(x);
        int[] wrong = {0, -1, 101, Integer.MIN_VALUE, Integer.MAX_VALUE};
        for (int n : wrong) {
            c.due("chance(" + n + ")", x.chance(n), -1);
            c.due("all stays", Check.all(x), before);
        }
        c.due("status(3)", x.status(3), wrong.length);
        c.turnOn(x, 900, 4, 0, 3, 9, 0, 255);
        c.due("chance(100) at 900", x.chance(100), -1);
        c.due("has(2): none of them passed", x.has(2), 900);
        c.due("tonight(0, 0): the ACT is there", x.tonight(0, 0), 3);
        c.due("has(9)", x.has(9), 0);
        NightForecast y = c.city("part a air 4;part b air 9;slip 100;");
        c.turnOn(y, 900, 4, 0, 3, 9, 0, 255);
        c.due("chance(99) at 900", x.chance(99), 99);
        y.chance(99);
        c.due("refused ones draw nothing", Check.all(x), Check.all(y));
        c.due("chance(1) at 999", x.chance(1), -1);
        c.due("status(3)", x.status(3), wrong.length + 2);
        c.turnOn(x, 899, 4, 0, 255, 9, 0, 255);
        c.due("chance(100) at 899", x.chance(100), 100);
    }

    private static void undoLatest(Check c) {
        c.sentence(27, "The latest ACT is undone");
        NightForecast x = c.city(TWO + "near a b;gale 6;slip 100;says air+1;");
        String[] states = new String[7];
        states[0] = Check.brief(x);
        x.read(0, 9);
        states[1] = Check.brief(x);
        x.hush(0);
        states[2] = Check.brief(x);
        x.aunt(1, 1);
        states[3] = Check.brief(x);
        x.deaf(0, 1);
        states[4] = Check.brief(x);
        x.nights(3);
        states[5] = Check.brief(x);
        x.chance(4);
        x.read(0, 21);
        for (int k = 5; k >= 0; k--) {
            c.due("undo() of ACT " + k, x.undo(), true);
            c.due("all ahead of ACT " + k, Check.brief(x), states[k]);
        }
        c.due("status(4)", x.status(4), 0);
        x = c.city(TWO + "near a b;gale 6;slip 100;says air+1;");
        x.read(0, 3);
        x.undo();
        x.read(0, 5);
        c.due("undo() of an ACT behind an undo()", x.undo(), true);
        c.due("all ahead of it", Check.brief(x), states[0]);
    }

    /** What is undone, and what is looked at AHEAD, holds for the last of seven PARTS too. */
    private static void undoLastPart(Check c) {
        c.sentence(27, "The latest ACT is undone");
        StringBuilder text = new StringBuilder();
        for (char name = 'a'; name < 'h'; name++) {
            text.append("part ").append(name).append(" air 4;");
        }
        NightForecast x = c.city(text.toString());
        x.read(6, 9);
        c.due("later(6, 1, 0)", x.later(6, 1, 0), 9);
        x.aunt(6, 1);
        x.deaf(6, 1);
        x.nights(1);
        c.due("part(6, 0) of a DEAF one", x.part(6, 0), 4);
        x.undo();
        x.undo();
        c.due("part(6, 2) undone", x.part(6, 2), 0);
        c.due("tonight(6, 0): the first ACT is there", x.tonight(6, 0), 9);
        x.undo();
        c.due("part(6, 1) undone", x.part(6, 1), 0);
        x.nights(1);
        c.due("part(6, 0)", x.part(6, 0), 9);
        x.undo();
        c.due("part(6, 0) undone", x.part(6, 0), 4);
        c.due("tonight(6, 0) behind it", x.tonight(6, 0), 9);
    }

    private static void undoSeed(Check c) {
        c.sentence(27, "(the seed stays): true");
        NightForecast x = c.city("part a air 4;slip 100;");
        drawn = 1;
        x.chance(1);
        draw(100);
        draw(1);
        c.due("part(0, 0)", x.part(0, 0), draw(21));
        x.undo();
        x.chance(1);
        draw(100);
        draw(1);
        c.due("part(0, 0): drawn anew", x.part(0, 0), draw(21));
        x.read(0, 3);
        x.seed(99);
        x.undo();
        drawn = 99;
        x.chance(1);
        draw(100);
        draw(1);
        c.due("part(0, 0): seed() is no ACT", x.part(0, 0), draw(21));
    }

    private static void undoNone(Check c) {
        c.sentence(27, "false, refused (4), when none can be");
        NightForecast x = new NightForecast();
        c.due("undo() of a new object", x.undo(), false);
        c.due("status(4)", x.status(4), 1);
        x = c.city(TWO);
        c.due("undo() of a new city", x.undo(), false);
        for (int k = 0; k < 21; k++) {
            x.nights(1);
        }
        for (int k = 20; k >= 1; k--) {
            c.due("undo()", x.undo(), true);
            c.due("has(2)", x.has(2), k);
        }
        String before = Check.all(x);
        refused(c, x, "undo() of the 21st", x.undo(), before);
        c.due("has(2)", x.has(2), 1);
        c.due("status(4)", x.status(4), 2);
        x.read(0, 3);
        c.turnOn(x, 5, 4, 0, 255, 9, 0, 255);
        c.due("undo() behind on()", x.undo(), false);
        c.due("status(4)", x.status(4), 3);
    }

    private static void seedIs(Check c) {
        c.sentence(28, "The seed: true");
        int[] seeds = {0, 1, 2, 77, 1 << 30, Integer.MAX_VALUE};
        for (int seed : seeds) {
            NightForecast x = c.city("part a air 4;part b air 9;slip 50;");
            c.due("seed(" + seed + ")", x.seed(seed), true);
            drawn = seed;
            int[] air = {4, 9};
            for (int k = 0; k < 40; k++) {
                if (draw(100) < 50) {
                    int part = draw(2);
                    air[part] = draw(21);
                }
            }
            x.chance(40);
            c.due("part(0, 0) by " + seed, x.part(0, 0), air[0]);
            c.due("part(1, 0) by " + seed, x.part(1, 0), air[1]);
            c.due("has(9): it is no ACT", x.has(9), 1);
            c.due("status(5)", x.status(5), 0);
        }
    }

    private static void seedBelow(Check c) {
        c.sentence(28, "false, refused (5), when it is below 0");
        NightForecast x = c.city("part a air 4;slip 100;");
        x.seed(7);
        c.due("seed(-1)", x.seed(-1), false);
        c.due("seed(min)", x.seed(Integer.MIN_VALUE), false);
        c.due("status(5)", x.status(5), 2);
        drawn = 7;
        draw(100);
        draw(1);
        x.chance(1);
        c.due("part(0, 0): the seed stays", x.part(0, 0), draw(21));
    }

    private static void seedAtFirst(Check c) {
        c.sentence(28, "(It is 1 at first.)");
        NightForecast x = c.city("part a air 4;slip 100;");
        drawn = 1;
        draw(100);
        draw(1);
        x.chance(1);
        c.due("part(0, 0) by the seed 1", x.part(0, 0), draw(21));
        x.seed(1);
        drawn = 1;
        draw(100);
        draw(1);
        x.chance(1);
        c.due("part(0, 0) by seed(1)", x.part(0, 0), draw(21));
    }
}
