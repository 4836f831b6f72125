/** Promises 6 to 10: has, letter, part, tonight, kept. */
public final class StateTest {
    private static final String CITY = "part low air 4;part middle air 15;part c air 9;"
        + "near low middle;near c middle;aunt c;deaf low;";

    public static void main(String[] args) {
        Check c = new Check("StateTest");
        counts(c);
        letters(c);
        parts(c);
        readings(c);
        sums(c);
        keeping(c);
        c.finish();
    }

    private static void counts(Check c) {
        NightForecast x = c.city(CITY, 7);
        int[] due = {3, 2, 0, 1, 1, 1, 28, 0, 0, 0};
        for (int what = 0; what < due.length; what++) {
            c.due("has(" + what + ")", x.has(what), due[what]);
        }
        c.due("has(10)", x.has(10), -1);
        c.due("has(-1)", x.has(-1), -1);
        c.due("has(max)", x.has(Integer.MAX_VALUE), -1);
        x.read(2, 15);
        x.nights(3);
        x.aunt(1, 1);
        x.deaf(2, 1);
        Check.tell(x, 0, 0, 4, 1, 1, 15);
        x.see();
        int[] then = {3, 2, 3, 2, 2, 2, 34, 1, 2, 4};
        for (int what = 0; what < then.length; what++) {
            c.due("then has(" + what + ")", x.has(what), then[what]);
        }
    }

    private static void letters(Check c) {
        NightForecast x = c.city(CITY + "part az air 0;", 8);
        int[] middle = {13, 9, 4, 4, 12, 5};
        int[] low = {12, 15, 23, 0, 0, 0};
        for (int k = 0; k < 6; k++) {
            c.due("letter(0, " + k + ")", x.letter(0, k), low[k]);
            c.due("letter(1, " + k + ")", x.letter(1, k), middle[k]);
        }
        c.due("letter(3, 0)", x.letter(3, 0), 1);
        c.due("letter(3, 1)", x.letter(3, 1), 26);
        c.due("letter(0, 6)", x.letter(0, 6), -1);
        c.due("letter(0, -1)", x.letter(0, -1), -1);
        c.due("letter(4, 0)", x.letter(4, 0), -1);
        c.due("letter(-1, 0)", x.letter(-1, 0), -1);
    }

    private static void parts(Check c) {
        NightForecast x = c.city(CITY, 7);
        int[][] due = {{4, 0, 1, 2, 0}, {15, 0, 0, 5, 1}, {9, 1, 0, 2, 0}};
        for (int p = 0; p < 3; p++) {
            for (int what = 0; what < 5; what++) {
                c.due("part(" + p + ", " + what + ")", x.part(p, what), due[p][what]);
            }
        }
        c.due("part(0, 5)", x.part(0, 5), -1);
        c.due("part(0, -1)", x.part(0, -1), -1);
        c.due("part(3, 0)", x.part(3, 0), -1);
        c.due("part(-1, 0)", x.part(-1, 0), -1);
    }

    private static void readings(Check c) {
        NightForecast x = c.city(CITY, 7);
        tonight(c, x, 0, 4, 15, 4, 4);
        tonight(c, x, 1, 15, 4, 15, 15);
        tonight(c, x, 2, 9, 15, 9, 9);
        x.read(0, 11);
        x.hush(1);
        x.read(2, 20);
        tonight(c, x, 0, 11, 15, 4, 4);
        tonight(c, x, 1, -1, 4, 15, 15);
        tonight(c, x, 2, 20, 15, 20, 20);
        x.aunt(0, 1);
        tonight(c, x, 1, -1, 15, 15, 15);
        x.nights(1);
        tonight(c, x, 0, 4, 15, 4, 4);
        tonight(c, x, 2, 20, 15, 20, 20);
        NightForecast alone = c.city("part a air 4;says 3;turns told+least+2;rival most-1;", 4);
        tonight(c, alone, 0, 3, 3, 3, 9);
        NightForecast many = c.city("part a air 4;part b air 7;part d air 2;part e air 5;near a b;near a d;near e a;"
            + "turns least;says most;", 9);
        tonight(c, many, 0, 7, 7, 7, 2);
        tonight(c, many, 3, 4, 4, 4, 4);
        c.due("tonight(0, 4)", x.tonight(0, 4), -1);
        c.due("tonight(0, -1)", x.tonight(0, -1), -1);
        c.due("tonight(3, 0)", x.tonight(3, 0), -1);
        c.due("tonight(-1, 0)", x.tonight(-1, 0), -1);
    }

    private static void tonight(Check c, NightForecast x, int part, int... due) {
        for (int what = 0; what < 4; what++) {
            c.due("tonight(" + part + ", " + what + ")", x.tonight(part, what), due[what]);
        }
    }

    private static void sums(Check c) {
        saysIs(c, "9-3-2", 4);
        saysIs(c, "2+3*4", 14);
        saysIs(c, "(1+2)*3", 9);
        saysIs(c, "19/2/2", 4);
        saysIs(c, "7*2/4", 3);
        saysIs(c, "17/0+5", 5);
        saysIs(c, "10+(0-7)/2", 6);
        saysIs(c, "10+7/(0-2)", 6);
        saysIs(c, "(0-8)/(0-2)", 4);
        saysIs(c, "(0-7)/(0-2)", 3);
        saysIs(c, "30", 20);
        saysIs(c, "0-1", 0);
        saysIs(c, "min(7,3)+max(7,3)", 10);
        saysIs(c, "9999*9999/9999", 20);
        saysIs(c, "9999*9999/5000/20", 10);
        saysIs(c, "(9999*9999+9999)/5000/20", 10);
        saysIs(c, "(0-9999*9999-9999)/5000/20+20", 10);
        saysIs(c, "(0-9999)*9999/5000/20+13", 3);
        saysIs(c, "gales*3+night", 3);
        saysIs(c, "air", 4);
        saysIs(c, "most+least", 20);
    }

    private static void saysIs(Check c, String sum, int value) {
        NightForecast x = c.city(CITY + "says " + sum + ";", 8);
        c.due("says " + sum, x.tonight(0, 0), value);
        x = c.city(CITY + "rival " + sum + ";", 8);
        c.due("rival " + sum, x.tonight(0, 1), value);
        x = c.city(CITY + "turns " + sum + ";", 8);
        c.due("turns " + sum, x.tonight(0, 3), value);
    }

    private static void keeping(Check c) {
        NightForecast x = c.city("part a air 0;part b air 20;turns 20-air;", 3);
        c.due("kept(0, 0)", x.kept(0, 0), -1);
        c.due("nights(3)", x.nights(3), 3);
        int[][] due = {{0, 0, 20}, {1, 1, 20}, {2, 0, 20}};
        for (int k = 0; k < 3; k++) {
            for (int what = 0; what < 3; what++) {
                c.due("kept(" + k + ", " + what + ")", x.kept(k, what), due[k][what]);
            }
        }
        c.due("kept(3, 0)", x.kept(3, 0), -1);
        c.due("kept(-1, 0)", x.kept(-1, 0), -1);
        c.due("kept(0, 3)", x.kept(0, 3), -1);
        c.due("kept(0, -1)", x.kept(0, -1), -1);
        c.due("nights(60)", x.nights(60), 60);
        c.due("has(7)", x.has(7), 40);
        c.due("kept(0, 0)", x.kept(0, 0), 23);
        c.due("kept(39, 0)", x.kept(39, 0), 62);
        c.due("kept(40, 0)", x.kept(40, 0), -1);
        c.due("undo()", x.undo(), true);
        c.due("has(7) behind undo()", x.has(7), 3);
        c.due("kept(2, 0) behind undo()", x.kept(2, 0), 2);
        x.nights(60);
        x.nights(100);
        c.due("undo()", x.undo(), true);
        c.due("kept(0, 0) behind undo()", x.kept(0, 0), 23);
    }
}
