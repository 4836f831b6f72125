/** Promises 18 to 20: see, fits, tells. */
public final class SeenTest {
    private static final int ALL = (1 << 21) - 1;

    public static void main(String[] args) {
        Check c = new Check("SeenTest");
        seeing(c);
        fitting(c);
        telling(c);
        lastNights(c);
        c.finish();
    }

    private static void seeing(Check c) {
        NightForecast x = c.city("part a air 4;part b air 9;", 2);
        sees(c, x, -1);
        sees(c, x, -1, 0);
        sees(c, x, -1, 0, 0);
        sees(c, x, 1, 0, 0, 4);
        sees(c, x, -1, 0, 0, 4, 0);
        sees(c, x, 2, 30, 1, 20, 0, 0, 0);
        c.due("has(8)", x.has(8), 2);
        sees(c, x, -1, 31, 0, 4);
        sees(c, x, -1, 0, 2, 4);
        sees(c, x, -1, 0, 0, 21);
        sees(c, x, -1, 0, 0, 4, 0, 0, 255);
        c.due("has(8) stays", x.has(8), 2);
        c.due("fits(0) stays", x.fits(0), 0);
        int[] rows = new int[48];
        sees(c, x, 16, rows);
        sees(c, x, -1, new int[51]);
        c.due("has(8)", x.has(8), 16);
        c.due("status(1)", x.status(1), 9);
        c.due("end(1)", x.end(1), false);
    }

    private static void sees(Check c, NightForecast x, int due, int... rows) {
        Check.tell(x, rows);
        c.due("see() of " + rows.length + " bytes", x.see(), due);
    }

    private static void fitting(Check c) {
        NightForecast x = c.city("part a air 4;part b air 9;near a b;says (air+most)/2;", 4);
        c.due("fits(0)", x.fits(0), ALL);
        c.due("fits(2)", x.fits(2), -1);
        c.due("fits(-1)", x.fits(-1), -1);
        sees(c, x, 1, 1, 0, 7);
        c.due("fits(0) of 7", x.fits(0), (1 << 5) | (1 << 6));
        c.due("fits(1) of 7", x.fits(1), (1 << 10) | (1 << 11));
        sees(c, x, 2, 1, 0, 7, 0, 0, 6);
        c.due("fits(0) of two", x.fits(0), 1 << 6);
        c.due("fits(1) of two", x.fits(1), 0);
        sees(c, x, 2, 1, 0, 7, 1, 0, 8);
        c.due("fits(0) of what can't be", x.fits(0), 0);
        sees(c, x, 1, 0, 1, 9);
        c.due("fits(0) of the other", x.fits(0), ALL);
        sees(c, x, 1, 0, 1, 8);
        c.due("fits(0) of what is not", x.fits(0), 0);
        sees(c, x, 1, 30, 0, 10);
        int bits = x.fits(0);
        for (int number = 0; number <= 20; number++) {
            c.due("fits(0), " + number, (bits >> number) & 1, (9 + number) / 2 == 10 ? 1 : 0);
        }
        x.read(0, 3);
        sees(c, x, 1, 1, 0, 3);
        c.due("fits(0) by an act", x.fits(0), ALL);
        c.due("has(6) stays", x.has(6), 13);
        x.nights(1);
        c.due("has(8) stays", x.has(8), 1);
        x.undo();
        c.due("has(8) stays", x.has(8), 1);
    }

    private static void telling(Check c) {
        NightForecast x = c.city("part a air 4;turns told/4;", 2);
        c.due("tells(0, 0)", x.tells(0, 0), 1);
        c.due("tells(0, 1)", x.tells(0, 1), 4);
        x = c.city("part a air 4;turns told*(night/3)+(1-min(night/3,1))*(told-told/6*6+6*min(night,0));", 2);
        c.due("tells(0, 1)", x.tells(0, 1), 4);
        x = c.city("part a air 4;part b air 0;near a b;turns (1-min(night,1))*air+min(night,1)*least;", 4);
        c.due("tells(0, 0), the first of like ones", x.tells(0, 0), 1);
        c.due("tells(0, 1), one left", x.tells(0, 1), 1);
        String late = "part a air 4;part b air 0;near a b;turns min(night,1)*most+(1-min(night,1))*most/4;";
        x = c.city(late, 4);
        c.due("tells(0, 0) of a later night", x.tells(0, 0), 2);
        c.due("tells(0, 1) of a later night", x.tells(0, 1), 4);
        sees(c, x, 1, 2, 0, 0);
        c.due("fits(0) with 0", x.fits(0), 15);
        c.due("tells(0, 1) with 0", x.tells(0, 1), 4);
        sees(c, x, 1, 0, 0, 7);
        c.due("tells(0, 0) of one number", x.tells(0, 0), 1);
        c.due("tells(0, 1) of one number", x.tells(0, 1), 1);
        sees(c, x, 1, 0, 1, 7);
        c.due("tells(0, 0) of no number", x.tells(0, 0), -1);
        c.due("tells(0, 1) of no number", x.tells(0, 1), -1);
        c.due("tells(1, 0)", x.tells(1, 0), 1);
        c.due("tells(1, 2)", x.tells(1, 2), -1);
        c.due("tells(1, -1)", x.tells(1, -1), -1);
        c.due("tells(2, 0)", x.tells(2, 0), -1);
        c.due("tells(-1, 0)", x.tells(-1, 0), -1);
    }

    private static void lastNights(Check c) {
        NightForecast x = c.city("part a air 4;turns told/4;", 2);
        for (int k = 0; k < 9; k++) {
            x.nights(100);
        }
        x.nights(98);
        sees(c, x, 1, 1, 0, 0);
        c.due("fits(0) at 998", x.fits(0), 15);
        c.due("tells(0, 0) at 998", x.tells(0, 0), 1);
        sees(c, x, 1, 2, 0, 0);
        c.due("fits(0) beyond 999", x.fits(0), 0);
        c.due("tells(0, 0) beyond 999", x.tells(0, 0), -1);
        x.nights(1);
        sees(c, x, 1, 0, 0, 3);
        c.due("fits(0) at 999", x.fits(0), 1 << 3);
        c.due("tells(0, 0) at 999", x.tells(0, 0), -1);
        c.due("tells(0, 1) at 999", x.tells(0, 1), -1);
    }
}
