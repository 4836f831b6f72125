/** Promises 21 to 28: read, hush, aunt, deaf, nights, chance, undo, seed. */
public final class ActsTest {
    public static void main(String[] args) {
        Check c = new Check("ActsTest");
        reading(c);
        hushing(c);
        aunts(c);
        listening(c);
        passing(c);
        slipping(c);
        undoing(c);
        seeding(c);
        c.finish();
    }

    private static NightForecast two(Check c) {
        return c.city("part a air 4;part b air 9;", 2);
    }

    private static void reading(Check c) {
        NightForecast x = two(c);
        c.due("read(0, 4): says so, no act", x.read(0, 4), true);
        c.due("read(0, 4) again", x.read(0, 4), false);
        c.due("read(0, 0)", x.read(0, 0), true);
        c.due("read(1, 20)", x.read(1, 20), true);
        c.due("read(0, 21)", x.read(0, 21), false);
        c.due("read(0, -1)", x.read(0, -1), false);
        c.due("read(0, 254)", x.read(0, 254), false);
        c.due("read(0, 255)", x.read(0, 255), false);
        c.due("read(2, 4)", x.read(2, 4), false);
        c.due("read(-1, 4)", x.read(-1, 4), false);
        c.due("status(2)", x.status(2), 7);
        c.due("has(9)", x.has(9), 3);
        x.nights(1);
        c.due("part(0, 0)", x.part(0, 0), 0);
        c.due("part(1, 0)", x.part(1, 0), 20);
        c.due("read(1, 20): the act is over", x.read(1, 20), true);
        x.hush(1);
        c.due("read(1, 20) behind hush", x.read(1, 20), true);
    }

    private static void hushing(Check c) {
        NightForecast x = c.city("part a air 4;part b air 9;says 7;", 3);
        c.due("hush(0)", x.hush(0), true);
        c.due("hush(0) again", x.hush(0), false);
        c.due("hush(2)", x.hush(2), false);
        c.due("hush(-1)", x.hush(-1), false);
        c.due("status(2)", x.status(2), 3);
        c.due("tonight(0, 0)", x.tonight(0, 0), -1);
        c.due("tonight(0, 2)", x.tonight(0, 2), 4);
        x.nights(1);
        c.due("part(0, 0)", x.part(0, 0), 4);
        c.due("part(1, 0)", x.part(1, 0), 7);
        c.due("tonight(0, 0)", x.tonight(0, 0), 7);
        x.read(0, 3);
        c.due("hush(0) behind read", x.hush(0), true);
        c.due("tonight(0, 0)", x.tonight(0, 0), -1);
    }

    private static void aunts(Check c) {
        NightForecast x = two(c);
        c.due("aunt(0, 0)", x.aunt(0, 0), false);
        c.due("aunt(0, 1)", x.aunt(0, 1), true);
        c.due("aunt(0, 1) again", x.aunt(0, 1), false);
        c.due("part(0, 1)", x.part(0, 1), 1);
        c.due("part(1, 1)", x.part(1, 1), 0);
        c.due("aunt(0, 2)", x.aunt(0, 2), false);
        c.due("aunt(0, -1)", x.aunt(0, -1), false);
        c.due("aunt(2, 1)", x.aunt(2, 1), false);
        c.due("aunt(-1, 1)", x.aunt(-1, 1), false);
        x.nights(1);
        c.due("part(0, 1) stays", x.part(0, 1), 1);
        c.due("aunt(0, 0)", x.aunt(0, 0), true);
        c.due("part(0, 1)", x.part(0, 1), 0);
        c.due("status(2)", x.status(2), 6);
    }

    private static void listening(Check c) {
        NightForecast x = c.city("part a air 4;part b air 9;says 7;", 3);
        c.due("deaf(1, 0)", x.deaf(1, 0), false);
        c.due("deaf(1, 1)", x.deaf(1, 1), true);
        c.due("deaf(1, 1) again", x.deaf(1, 1), false);
        c.due("part(1, 2)", x.part(1, 2), 1);
        c.due("deaf(1, 2)", x.deaf(1, 2), false);
        c.due("deaf(1, -1)", x.deaf(1, -1), false);
        c.due("deaf(2, 1)", x.deaf(2, 1), false);
        c.due("deaf(-1, 1)", x.deaf(-1, 1), false);
        x.nights(2);
        c.due("part(0, 0)", x.part(0, 0), 7);
        c.due("part(1, 0)", x.part(1, 0), 9);
        c.due("deaf(1, 0)", x.deaf(1, 0), true);
        x.nights(1);
        c.due("part(1, 0)", x.part(1, 0), 7);
        c.due("status(2)", x.status(2), 6);
    }

    private static void passing(Check c) {
        NightForecast x = c.city("part a air 13;part b air 14;near a b;says min(air+1,20);turns told;", 5);
        c.due("nights(1)", x.nights(1), 1);
        c.due("nights(1)", x.nights(1), 1);
        c.due("nights(1)", x.nights(1), 0);
        c.due("nights(0)", x.nights(0), -1);
        c.due("nights(-1)", x.nights(-1), -1);
        c.due("nights(101)", x.nights(101), -1);
        c.due("status(3)", x.status(3), 3);
        c.due("has(2)", x.has(2), 3);
        for (int k = 0; k < 9; k++) {
            c.due("nights(100)", x.nights(100), 0);
        }
        c.due("nights(97)", x.nights(97), -1);
        c.due("chance(97)", x.chance(97), -1);
        c.due("nights(95)", x.nights(95), 0);
        c.due("chance(1)", x.chance(1), 0);
        c.due("has(2)", x.has(2), 999);
        c.due("nights(1)", x.nights(1), -1);
        c.due("chance(1)", x.chance(1), -1);
        c.due("status(3)", x.status(3), 7);
        x = c.city("part a air 1;part b air 2;near a b;turns most;", 4);
        x.nights(1);
        c.due("all at once: part(0, 0)", x.part(0, 0), 2);
        c.due("all at once: part(1, 0)", x.part(1, 0), 1);
    }

    private static long x;

    private static int draw(int m) {
        x = (1103515245L * x + 12345L) % (1L << 31);
        return (int) (x / 64 % m);
    }

    private static void slipping(Check c) {
        NightForecast f = c.city("part a air 4;part b air 9;part d air 2;slip 40;", 4);
        x = 1;
        int[] air = {4, 9, 2};
        for (int round = 1; round <= 30; round++) {
            int slips = 0;
            for (int k = 0; k < round; k++) {
                if (draw(100) < 40) {
                    int part = draw(3);
                    air[part] = draw(21);
                    slips++;
                }
            }
            c.due("chance(" + round + ")", f.chance(round), slips);
            for (int p = 0; p < 3; p++) {
                c.due("part(" + p + ", 0)", f.part(p, 0), air[p]);
            }
        }
        c.due("has(9)", f.has(9), 20);
        c.due("chance(0)", f.chance(0), -1);
        c.due("chance(101)", f.chance(101), -1);
        c.due("status(3)", f.status(3), 2);
        f = c.city("part a air 4;", 1);
        for (int k = 0; k < 9; k++) {
            c.due("chance(100) without slip", f.chance(100), 0);
        }
        f = c.city("slip 100;", 1);
        c.due("chance(100) without parts", f.chance(100), 0);
        f = c.city("part a air 4;slip 100;", 2);
        f.hush(0);
        x = 1;
        draw(100);
        draw(1);
        int over = draw(21);
        c.due("chance(1)", f.chance(1), 1);
        c.due("a slip over an act", f.part(0, 0), over);
        c.due("tonight(0, 0): the slip is over", f.tonight(0, 0), over);
    }

    private static void undoing(Check c) {
        NightForecast f = c.city("part a air 4;part b air 14;slip 100;says air+1;", 4);
        c.due("undo()", f.undo(), false);
        f.read(0, 7);
        f.hush(0);
        f.aunt(0, 1);
        f.deaf(1, 1);
        f.deaf(1, 0);
        f.nights(3);
        c.due("has(7)", f.has(7), 1);
        f.chance(4);
        f.seed(-5);
        c.due("has(9)", f.has(9), 7);
        c.due("undo() of chance", f.undo(), true);
        c.due("has(2)", f.has(2), 3);
        c.due("has(7)", f.has(7), 1);
        c.due("undo() of nights", f.undo(), true);
        c.due("has(2)", f.has(2), 0);
        c.due("has(7)", f.has(7), 0);
        c.due("part(1, 0)", f.part(1, 0), 14);
        c.due("tonight(0, 0)", f.tonight(0, 0), -1);
        c.due("undo() of deaf", f.undo(), true);
        c.due("part(1, 2)", f.part(1, 2), 1);
        c.due("undo() of deaf", f.undo(), true);
        c.due("part(1, 2)", f.part(1, 2), 0);
        c.due("undo() of aunt", f.undo(), true);
        c.due("part(0, 1)", f.part(0, 1), 0);
        c.due("undo() of hush", f.undo(), true);
        c.due("tonight(0, 0)", f.tonight(0, 0), 7);
        c.due("undo() of read", f.undo(), true);
        c.due("tonight(0, 0)", f.tonight(0, 0), 5);
        c.due("undo()", f.undo(), false);
        c.due("status(4)", f.status(4), 2);
        for (int k = 0; k < 25; k++) {
            f.nights(1);
        }
        for (int k = 0; k < 20; k++) {
            c.due("undo() " + k, f.undo(), true);
        }
        c.due("undo() of the 21st", f.undo(), false);
        c.due("has(2)", f.has(2), 5);
    }

    private static void seeding(Check c) {
        NightForecast f = c.city("part a air 4;slip 100;", 2);
        x = 77;
        c.due("seed(77)", f.seed(77), true);
        f.chance(1);
        draw(100);
        draw(1);
        c.due("part(0, 0)", f.part(0, 0), draw(21));
        f.undo();
        c.due("part(0, 0)", f.part(0, 0), 4);
        f.chance(1);
        draw(100);
        draw(1);
        c.due("part(0, 0): undo leaves the seed", f.part(0, 0), draw(21));
        Check.tell(f, "part a air 4;slip 100;");
        f.city();
        f.chance(1);
        draw(100);
        draw(1);
        c.due("part(0, 0): city leaves the seed", f.part(0, 0), draw(21));
        c.due("seed(-1)", f.seed(-1), false);
        c.due("seed(min)", f.seed(Integer.MIN_VALUE), false);
        c.due("status(5)", f.status(5), 2);
        c.due("has(9)", f.has(9), 1);
        c.due("seed(max)", f.seed(Integer.MAX_VALUE), true);
        c.due("seed(0)", f.seed(0), true);
        x = 0;
        f.chance(1);
        draw(100);
        draw(1);
        c.due("part(0, 0) of seed 0", f.part(0, 0), draw(21));
    }
}
