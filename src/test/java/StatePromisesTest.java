/** Promises 6 to 10, sentence by sentence: has, letter, part, tonight, kept. */
public final class StatePromisesTest {
    private static final int[] NO_PART = {-1, -2, 3, 7, 8, 31, 32, Integer.MIN_VALUE, Integer.MAX_VALUE};
    private static final String THREE = "part a air 4;part b air 15;part d air 9;near b a;near b d;aunt d;deaf a;";

    public static void main(String[] args) {
        Check c = new Check("StatePromisesTest");
        hasParts(c);
        hasPairs(c);
        hasNight(c);
        hasGales(c);
        hasAunts(c);
        hasDeaf(c);
        hasAir(c);
        hasKept(c);
        hasSeen(c);
        hasActs(c);
        hasOthers(c);
        letters(c);
        lettersBehind(c);
        noSuchLetter(c);
        partAir(c);
        partAunt(c);
        partDeaf(c);
        partNear(c);
        partGale(c);
        noSuchPart(c);
        tonightRead(c);
        tonightRival(c);
        tonightTold(c);
        tonightBehind(c);
        noSuchTonight(c);
        keptFromTheOldest(c);
        keptNight(c);
        noSuchKept(c);
        c.finish();
    }

    private static String parts(int count, int air) {
        StringBuilder text = new StringBuilder();
        for (int k = 0; k < count; k++) {
            text.append("part ").append((char) ('a' + k)).append(" air ").append(air).append(';');
        }
        return text.toString();
    }

    private static void hasParts(Check c) {
        c.sentence(6, "How many there are: 0 PARTS");
        for (int count = 0; count <= 7; count++) {
            c.due("has(0) of " + count, c.city(parts(count, 20)).has(0), count);
        }
    }

    private static void hasPairs(Check c) {
        c.sentence(6, "1 pairs near");
        StringBuilder text = new StringBuilder(parts(7, 1));
        c.due("has(1) of none", c.city(text.toString()).has(1), 0);
        int count = 0;
        for (int a = 6; a > 0 && count < 12; a--) {
            for (int b = 0; b < a && count < 12; b++) {
                text.append("near ").append((char) ('a' + a)).append(' ').append((char) ('a' + b)).append(';');
                count++;
                c.due("has(1) of " + count, c.city(text.toString()).has(1), count);
            }
        }
    }

    private static void hasNight(Check c) {
        c.sentence(6, "2 NIGHT");
        NightForecast x = c.city(parts(1, 1));
        c.due("has(2) at first", x.has(2), 0);
        x.nights(1);
        c.due("has(2)", x.has(2), 1);
        for (int k = 0; k < 9; k++) {
            x.nights(100);
        }
        x.nights(98);
        c.due("has(2) at last", x.has(2), 999);
        x.undo();
        c.due("has(2) undone", x.has(2), 901);
        x = new NightForecast();
        x.nights(3);
        c.due("has(2) without a city", x.has(2), 3);
    }

    private static void hasGales(Check c) {
        c.sentence(6, "3 GALES");
        NightForecast x = c.city("part a air 14;part b air 15;part d air 16;");
        c.due("has(3)", x.has(3), 2);
        x.read(0, 15);
        c.due("has(3) ahead of the night", x.has(3), 2);
        x.nights(1);
        c.due("has(3)", x.has(3), 3);
        c.due("has(3) of none", c.city(parts(7, 14)).has(3), 0);
        c.due("has(3) of all", c.city(parts(7, 15)).has(3), 7);
        c.due("has(3) of gale 20", c.city(parts(7, 19) + "gale 20;").has(3), 0);
        c.due("has(3) of gale 1", c.city(parts(7, 1) + "gale 1;").has(3), 7);
    }

    private static void hasAunts(Check c) {
        c.sentence(6, "4 aunts");
        NightForecast x = c.city(parts(7, 1) + "aunt g;deaf a;");
        c.due("has(4)", x.has(4), 1);
        for (int p = 0; p < 6; p++) {
            x.aunt(p, 1);
            c.due("has(4)", x.has(4), p + 2);
        }
        x.aunt(6, 0);
        c.due("has(4) when one went", x.has(4), 6);
    }

    private static void hasDeaf(Check c) {
        c.sentence(6, "5 DEAF");
        NightForecast x = c.city(parts(7, 1) + "deaf g;aunt a;");
        c.due("has(5)", x.has(5), 1);
        for (int p = 0; p < 6; p++) {
            x.deaf(p, 1);
            c.due("has(5)", x.has(5), p + 2);
        }
        x.deaf(6, 0);
        c.due("has(5) when one listens", x.has(5), 6);
    }

    private static void hasAir(Check c) {
        c.sentence(6, "6 air of all together");
        c.due("has(6) of none", c.city("").has(6), 0);
        c.due("has(6) of 0", c.city(parts(7, 0)).has(6), 0);
        c.due("has(6) of 20", c.city(parts(7, 20)).has(6), 140);
        NightForecast x = c.city(THREE);
        c.due("has(6)", x.has(6), 28);
        Check.tell(x, "part z air 5;");
        x.city();
        c.due("has(6) of fewer PARTS than ahead", x.has(6), 5);
    }

    private static void hasKept(Check c) {
        c.sentence(6, "7 what is told as KEPT");
        NightForecast x = c.city("part a air 0;part b air 20;turns 20-air;");
        c.due("has(7) at first: a GALE that was there", x.has(7), 0);
        x.nights(39);
        c.due("has(7)", x.has(7), 39);
        x.nights(1);
        c.due("has(7)", x.has(7), 40);
        x.nights(1);
        c.due("has(7) behind 41", x.has(7), 40);
        x.undo();
        x.undo();
        c.due("has(7) undone", x.has(7), 39);
    }

    private static void hasSeen(Check c) {
        c.sentence(6, "8 rows SEEN");
        NightForecast x = c.city(parts(1, 1));
        c.due("has(8) of none", x.has(8), 0);
        for (int rows = 16; rows >= 1; rows--) {
            c.see(x, new int[3 * rows]);
            c.due("has(8)", x.has(8), rows);
        }
    }

    private static void hasActs(Check c) {
        c.sentence(6, "9 ACTS that can be undone");
        NightForecast x = c.city(parts(1, 1));
        c.due("has(9) of none", x.has(9), 0);
        x.read(0, 0);
        x.hush(0);
        x.aunt(0, 1);
        x.deaf(0, 1);
        x.nights(100);
        x.chance(100);
        c.due("has(9): one of each", x.has(9), 6);
        x.seed(5);
        x.image();
        x.read(1, 0);
        x.nights(0);
        c.due("has(9): no ACTS, and refused ones", x.has(9), 6);
        for (int k = 7; k <= 25; k++) {
            x.nights(1);
            c.due("has(9) behind " + k, x.has(9), Math.min(k, 20));
        }
        x.undo();
        c.due("has(9) behind undo()", x.has(9), 19);
    }

    private static void hasOthers(Check c) {
        c.sentence(6, "NONE for others");
        NightForecast x = c.city(THREE);
        int[] others = {-1, 10, 11, Integer.MIN_VALUE, Integer.MAX_VALUE};
        for (int what : others) {
            c.due("has(" + what + ")", x.has(what), -1);
        }
    }

    private static void letters(Check c) {
        c.sentence(7, "Letter k (0 .. 5) of the NAME of a PART: 1 .. 26");
        NightForecast x = c.city("part azbycx air 1;part mnopqr air 2;part zzzzzz air 3;");
        int[][] due = {{1, 26, 2, 25, 3, 24}, {13, 14, 15, 16, 17, 18}, {26, 26, 26, 26, 26, 26}};
        for (int p = 0; p < 3; p++) {
            for (int k = 0; k < 6; k++) {
                c.due("letter(" + p + ", " + k + ")", x.letter(p, k), due[p][k]);
            }
        }
        StringBuilder text = new StringBuilder();
        for (char first = 'a'; first <= 'g'; first++) {
            text.append("part ").append(first).append(" air 1;");
        }
        c.due("letter(6, 0)", c.city(text.toString()).letter(6, 0), 7);
    }

    private static void lettersBehind(Check c) {
        c.sentence(7, "0 behind it");
        NightForecast x = c.city("part a air 1;part abcde air 2;");
        for (int k = 1; k < 6; k++) {
            c.due("letter(0, " + k + ")", x.letter(0, k), 0);
        }
        c.due("letter(1, 4)", x.letter(1, 4), 5);
        c.due("letter(1, 5)", x.letter(1, 5), 0);
        Check.tell(x, "part zzzzzz air 1;");
        x.city();
        Check.tell(x, "part y air 1;");
        x.city();
        c.due("letter(0, 1): nothing of a longer NAME ahead", x.letter(0, 1), 0);
    }

    private static void noSuchLetter(Check c) {
        c.sentence(7, "NONE when there is none such");
        NightForecast x = c.city(THREE);
        int[] none = {-1, 6, 7, Integer.MIN_VALUE, Integer.MAX_VALUE};
        for (int k : none) {
            c.due("letter(0, " + k + ")", x.letter(0, k), -1);
        }
        for (int p : NO_PART) {
            c.due("letter(" + p + ", 0)", x.letter(p, 0), -1);
        }
        c.due("letter(7, 0) of seven PARTS", c.city(parts(7, 1)).letter(7, 0), -1);
    }

    private static void partAir(Check c) {
        c.sentence(8, "Of a PART: 0 its air");
        NightForecast x = c.city("part a air 0;part b air 20;part d air 7;");
        c.due("part(0, 0)", x.part(0, 0), 0);
        c.due("part(1, 0)", x.part(1, 0), 20);
        c.due("part(2, 0)", x.part(2, 0), 7);
        x.read(2, 8);
        c.due("part(2, 0) ahead of the NIGHT", x.part(2, 0), 7);
        x.nights(1);
        c.due("part(2, 0) behind the NIGHT", x.part(2, 0), 8);
    }

    private static void partAunt(Check c) {
        c.sentence(8, "1 whether an aunt is there");
        NightForecast x = c.city(THREE);
        c.due("part(0, 1)", x.part(0, 1), 0);
        c.due("part(2, 1)", x.part(2, 1), 1);
        x.aunt(0, 1);
        x.aunt(2, 0);
        c.due("part(0, 1)", x.part(0, 1), 1);
        c.due("part(1, 1)", x.part(1, 1), 0);
        c.due("part(2, 1)", x.part(2, 1), 0);
    }

    private static void partDeaf(Check c) {
        c.sentence(8, "2 whether it is DEAF");
        NightForecast x = c.city(THREE);
        c.due("part(0, 2)", x.part(0, 2), 1);
        c.due("part(2, 2)", x.part(2, 2), 0);
        x.deaf(0, 0);
        x.deaf(2, 1);
        c.due("part(0, 2)", x.part(0, 2), 0);
        c.due("part(1, 2)", x.part(1, 2), 0);
        c.due("part(2, 2)", x.part(2, 2), 1);
    }

    private static void partNear(Check c) {
        c.sentence(8, "3 PARTS near it, as bits");
        NightForecast x = c.city(THREE);
        c.due("part(0, 3)", x.part(0, 3), 2);
        c.due("part(1, 3)", x.part(1, 3), 5);
        c.due("part(2, 3)", x.part(2, 3), 2);
        x = c.city(parts(7, 1) + "near a g;near b g;near c g;near g d;near g e;near g f;");
        c.due("part(6, 3): all others", x.part(6, 3), 63);
        c.due("part(0, 3): the last", x.part(0, 3), 64);
        x.aunt(0, 1);
        c.due("part(6, 3): an aunt leaves it near", x.part(6, 3), 63);
        c.due("part(0, 3): none", c.city(parts(2, 1)).part(0, 3), 0);
    }

    private static void partGale(Check c) {
        c.sentence(8, "4 whether there is a GALE");
        NightForecast x = c.city("part a air 14;part b air 15;part d air 16;");
        c.due("part(0, 4)", x.part(0, 4), 0);
        c.due("part(1, 4)", x.part(1, 4), 1);
        c.due("part(2, 4)", x.part(2, 4), 1);
        x = c.city("part a air 0;part b air 1;gale 1;");
        c.due("part(0, 4) of gale 1", x.part(0, 4), 0);
        c.due("part(1, 4) of gale 1", x.part(1, 4), 1);
    }

    private static void noSuchPart(Check c) {
        c.sentence(8, "NONE when there is none such, or for others");
        NightForecast x = c.city(THREE);
        for (int p : NO_PART) {
            for (int what = 0; what < 5; what++) {
                c.due("part(" + p + ", " + what + ")", x.part(p, what), -1);
            }
        }
        int[] others = {-1, 5, Integer.MIN_VALUE, Integer.MAX_VALUE};
        for (int what : others) {
            c.due("part(0, " + what + ")", x.part(0, what), -1);
        }
    }

    private static void tonightRead(Check c) {
        c.sentence(9, "For a PART tonight: 0 what is READ (NONE: nothing)");
        NightForecast x = c.city(THREE + "says air+1;");
        c.due("tonight(1, 0)", x.tonight(1, 0), 16);
        c.due("tonight(0, 0): READ for a DEAF one, too", x.tonight(0, 0), 5);
        x.read(0, 0);
        c.due("tonight(0, 0) by an ACT", x.tonight(0, 0), 0);
        x.hush(1);
        c.due("tonight(1, 0): nothing", x.tonight(1, 0), -1);
        x.nights(1);
        c.due("tonight(1, 0) the NIGHT behind", x.tonight(1, 0), 16);
    }

    private static void tonightRival(Check c) {
        c.sentence(9, "1 what the RIVAL says");
        NightForecast x = c.city(THREE + "rival air*2;");
        c.due("tonight(0, 1)", x.tonight(0, 1), 8);
        c.due("tonight(1, 1)", x.tonight(1, 1), 20);
        x.read(0, 3);
        x.hush(1);
        c.due("tonight(0, 1): no ACT tells it", x.tonight(0, 1), 8);
        c.due("tonight(1, 1): no ACT tells it", x.tonight(1, 1), 20);
        c.due("tonight(1, 1) without rival", c.city(THREE).tonight(1, 1), 4);
    }

    private static void tonightTold(Check c) {
        c.sentence(9, "2 what it is TOLD");
        NightForecast x = c.city(THREE + "says air+1;");
        c.due("tonight(0, 2): DEAF", x.tonight(0, 2), 4);
        c.due("tonight(1, 2)", x.tonight(1, 2), 16);
        x.hush(1);
        c.due("tonight(1, 2): nothing is READ", x.tonight(1, 2), 15);
        x.read(2, 0);
        c.due("tonight(2, 2) by an ACT", x.tonight(2, 2), 0);
        x.read(0, 9);
        c.due("tonight(0, 2): an ACT for a DEAF one", x.tonight(0, 2), 4);
    }

    private static void tonightBehind(Check c) {
        c.sentence(9, "3 its air behind the NIGHT");
        NightForecast x = c.city("part a air 4;part b air 7;near a b;turns told+most;");
        c.due("tonight(0, 3)", x.tonight(0, 3), 11);
        x.read(1, 18);
        c.due("tonight(1, 3): 20 at most", x.tonight(1, 3), 20);
        c.due("tonight(0, 3): what is near tonight", x.tonight(0, 3), 11);
        c.due("part(0, 0): nothing has passed", x.part(0, 0), 4);
        c.due("has(2)", x.has(2), 0);
        x.nights(1);
        c.due("part(0, 0)", x.part(0, 0), 11);
        c.due("part(1, 0)", x.part(1, 0), 20);
    }

    private static void noSuchTonight(Check c) {
        c.sentence(9, "NONE when there is none such, or for others");
        NightForecast x = c.city(THREE);
        for (int p : NO_PART) {
            for (int what = 0; what < 4; what++) {
                c.due("tonight(" + p + ", " + what + ")", x.tonight(p, what), -1);
            }
        }
        int[] others = {-1, 4, Integer.MIN_VALUE, Integer.MAX_VALUE};
        for (int what : others) {
            c.due("tonight(0, " + what + ")", x.tonight(0, what), -1);
        }
    }

    private static void keptFromTheOldest(Check c) {
        c.sentence(10, "Of what is told as KEPT, the k-th from the oldest on");
        NightForecast x = c.city("part a air 0;turns (1-air/20)*20;");
        c.due("nights(79)", x.nights(79), 40);
        c.due("has(7)", x.has(7), 40);
        for (int k = 0; k < 40; k++) {
            c.due("kept(" + k + ", 0) of 40", x.kept(k, 0), 2 * k);
        }
        x.nights(2);
        for (int k = 0; k < 40; k++) {
            c.due("kept(" + k + ", 0) of 41", x.kept(k, 0), 2 * k + 2);
        }
        x.nights(100);
        c.due("kept(0, 0)", x.kept(0, 0), 102);
        c.due("kept(39, 0)", x.kept(39, 0), 180);
        x.undo();
        c.due("kept(0, 0) undone", x.kept(0, 0), 2);
    }

    private static void keptNight(Check c) {
        c.sentence(10, "0 NIGHT, 1 PART, 2 air");
        NightForecast x = c.city("part a air 14;part b air 15;part d air 3;says air+1;turns told;");
        c.due("nights(1)", x.nights(1), 1);
        c.due("kept(0, 0): the NIGHT in which it rises", x.kept(0, 0), 0);
        c.due("kept(0, 1)", x.kept(0, 1), 0);
        c.due("kept(0, 2)", x.kept(0, 2), 15);
        x.read(2, 20);
        x.nights(1);
        c.due("kept(1, 0)", x.kept(1, 0), 1);
        c.due("kept(1, 1)", x.kept(1, 1), 2);
        c.due("kept(1, 2)", x.kept(1, 2), 20);
        x = c.city(parts(7, 0) + "says 20;");
        c.turnOn(x, 998, 0, 0, 255, 0, 0, 255, 0, 0, 255, 0, 0, 255, 0, 0, 255, 0, 0, 255, 0, 0, 255);
        c.due("nights(1)", x.nights(1), 7);
        for (int k = 0; k < 7; k++) {
            c.due("kept(" + k + ", 0) in one NIGHT", x.kept(k, 0), 998);
            c.due("kept(" + k + ", 1) in one NIGHT", x.kept(k, 1), k);
            c.due("kept(" + k + ", 2) in one NIGHT", x.kept(k, 2), 20);
        }
    }

    private static void noSuchKept(Check c) {
        c.sentence(10, "NONE when there is none such, or for others");
        NightForecast x = c.city("part a air 0;turns (1-air/20)*20;");
        c.due("kept(0, 0) of none", x.kept(0, 0), -1);
        x.nights(1);
        int[] none = {-1, 1, 39, 40, Integer.MIN_VALUE, Integer.MAX_VALUE};
        for (int k : none) {
            c.due("kept(" + k + ", 0)", x.kept(k, 0), -1);
        }
        x.nights(100);
        c.due("kept(39, 0) of 40", x.kept(39, 0) >= 0, true);
        c.due("kept(40, 0) of 40", x.kept(40, 0), -1);
        int[] others = {-1, 3, Integer.MIN_VALUE, Integer.MAX_VALUE};
        for (int what : others) {
            c.due("kept(0, " + what + ")", x.kept(0, what), -1);
        }
    }
}
