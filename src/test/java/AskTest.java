/** Promise 29: ask. */
public final class AskTest {
    public static void main(String[] args) {
        Check c = new Check("AskTest");
        kinds(c, three(c));
        values(c, three(c));
        tests(c, three(c));
        faults(c, three(c));
        depth(c, three(c));
        withoutParts(c);
        NightForecast x = three(c);
        for (int k = 0; k < 9; k++) {
            c.ask(x, "total 1" + "+1".repeat(500), 3 * 501);
        }
        c.due("status(1)", x.status(1), 0);
        c.finish();
    }

    private static NightForecast three(Check c) {
        return c.city("part a air 4;part b air 16;part d air 9;near a b;near b d;aunt d;deaf a;says 12;");
    }

    private static void kinds(Check c, NightForecast x) {
        c.ask(x, "first air>5", 1);
        c.ask(x, "last air>5", 2);
        c.ask(x, "often air>5", 2);
        c.ask(x, "first air>16", -1);
        c.ask(x, "last air>16", -1);
        c.ask(x, "often air>16", 0);
        c.ask(x, "total air", 29);
        c.ask(x, "most air", 16);
        c.ask(x, "least air", 4);
        c.ask(x, "most 0-air", -4);
        c.ask(x, "least 0-air", -16);
        c.ask(x, "total 9999*9999", 3000000);
        c.ask(x, "total 0-9999*9999", -3000000);
        c.ask(x, " \nmost\nmost ", 16);
    }

    private static void values(Check c, NightForecast x) {
        c.ask(x, "total 7", 21);
        c.ask(x, "total number", 3);
        c.ask(x, "total most", 16 + 4 + 16);
        c.ask(x, "total least", 16 + 4 + 16);
        c.ask(x, "total gales", 3);
        c.ask(x, "total told", 4 + 12 + 12);
        c.ask(x, "total aunt", 1);
        c.ask(x, "last aunt=1", 2);
        c.ask(x, "first deaf=1", 0);
        c.ask(x, "total near 1", 2);
        c.ask(x, "total near 0", 1);
        c.ask(x, "total near 3", 0);
        c.ask(x, "total near (0-1)", 0);
        c.ask(x, "total near 32", 0);
        c.ask(x, "total near number", 0);
        c.ask(x, "total near (number+1)", 2);
        c.ask(x, "total near 1*5", 10);
        c.ask(x, "total near near 1", 3);
        c.ask(x, "total min(air,9)+max(1,2)", 4 + 9 + 9 + 6);
        c.ask(x, "total night", 0);
        x.nights(2);
        c.ask(x, "total night", 6);
        x.read(0, 3);
        x.deaf(0, 0);
        c.ask(x, "most 0-told", -3);
        x.undo();
        x.undo();
        x.undo();
        c.ask(x, "total 1-2-3", -12);
        c.ask(x, "total 2+3*4", 42);
        c.ask(x, "total 7/2*2", 18);
        c.ask(x, "total (0-7)/2", -12);
        c.ask(x, "total 7/0", 0);
    }

    private static void tests(Check c, NightForecast x) {
        c.ask(x, "often all", 3);
        c.ask(x, "often not all", 0);
        c.ask(x, "often air=9", 1);
        c.ask(x, "often air<9", 1);
        c.ask(x, "often air>9", 1);
        c.ask(x, "often not air=9", 2);
        c.ask(x, "often air=4 or air=9 and air=16", 1);
        c.ask(x, "often [air=4 or air=9] and air=9", 1);
        c.ask(x, "often not air=4 and not air=9", 1);
        c.ask(x, "often not[air=4 and air=9]", 3);
        c.ask(x, "often not not air=4", 1);
        c.ask(x, "often air>3 and all", 3);
        c.ask(x, "often all and air<17", 3);
        c.ask(x, "often not air=4 and all", 2);
        c.ask(x, "often air=4 or air=9 or air=16", 3);
        c.ask(x, "often 1+1=2 and air-4<1", 1);
        c.ask(x, "often[[all]]", 3);
    }

    private static void faults(Check c, NightForecast x) {
        c.askFault(x, "", 1, 0);
        c.askFault(x, "  \n", 1, 3);
        c.askFault(x, "firs all", 1, 0);
        c.askFault(x, "air", 1, 0);
        c.askFault(x, "5", 1, 0);
        c.askFault(x, "first", 1, 5);
        c.askFault(x, "first all all", 1, 10);
        c.askFault(x, "first all;", 1, 9);
        c.askFault(x, "first air", 1, 9);
        c.askFault(x, "first air and all", 1, 10);
        c.askFault(x, "first air>", 1, 10);
        c.askFault(x, "first air>=5", 1, 10);
        c.askFault(x, "first 5<air<7", 1, 11);
        c.askFault(x, "first 5<all", 1, 8);
        c.askFault(x, "first (air>5)", 1, 10);
        c.askFault(x, "first [air]", 1, 10);
        c.askFault(x, "first [all", 1, 10);
        c.askFault(x, "first all]", 1, 9);
        c.askFault(x, "first not", 1, 9);
        c.askFault(x, "first all or", 1, 12);
        c.askFault(x, "first all and", 1, 13);
        c.askFault(x, "first all and ]", 1, 14);
        c.askFault(x, "total 1+", 1, 8);
        c.askFault(x, "total 1*", 1, 8);
        c.askFault(x, "total (1+)", 1, 9);
        c.askFault(x, "first all xor all", 1, 10);
        c.askFault(x, "first air>5and all", 1, 11);
        c.askFault(x, "total 5;", 1, 7);
        c.askFault(x, "total 5 5", 1, 8);
        c.askFault(x, "total 5a", 1, 7);
        c.askFault(x, "total 5=5", 1, 7);
        c.askFault(x, "total all", 1, 6);
        c.askFault(x, "total rival", 1, 6);
        c.askFault(x, "total unknownword", 1, 6);
        c.askFault(x, "total 12345", 1, 10);
        c.askFault(x, "total near", 1, 10);
        c.askFault(x, "total near0", 1, 10);
        c.askFault(x, "total near -1", 1, 11);
        c.askFault(x, "total near min", 1, 14);
        c.askFault(x, "total5", 1, 5);
        c.askFault(x, "most", 1, 4);
        c.askFault(x, "total \u00e9", 1, 6);
        c.due("end(1)", x.end(1), false);
    }

    private static void depth(Check c, NightForecast x) {
        c.ask(x, "often not not not not not not all", 3);
        c.askFault(x, "often not not not not not not not all", 4, 30);
        c.ask(x, "often [[[[[[all]]]]]]", 3);
        c.askFault(x, "often [[[[[[[all]]]]]]]", 4, 12);
        c.ask(x, "total ((((((5))))))", 15);
        c.askFault(x, "total (((((((5)))))))", 4, 12);
        c.ask(x, "total near near near near near near 1", 3);
        c.askFault(x, "total near near near near near near near 1", 4, 36);
        c.ask(x, "often not not not all and [[[[[[all]]]]]]", 0);
        c.ask(x, "total near 1+((((((1))))))", 5);
        c.askFault(x, "total near ((((((1))))))", 4, 16);
        c.askFault(x, "often not air>((((((1))))))", 4, 19);
        c.askFault(x, "often [not [near (min(2,(3))=1]]", 4, 24);
        c.ask(x, "often [not [near (min(2,3))=1]]", 2);
        c.askFault(x, "often not not not not not not [all]", 4, 30);
        c.askFault(x, "often not not not not not not near 1=1", 4, 30);
    }

    private static void withoutParts(Check c) {
        NightForecast x = new NightForecast();
        c.ask(x, "first all", -1);
        c.ask(x, "last all", -1);
        c.ask(x, "often all", 0);
        c.ask(x, "total 5", 0);
        c.ask(x, "most 5", 0);
        c.ask(x, "least 5", 0);
        c.askFault(x, "least", 1, 5);
    }
}
