/** Terms I, sentence by sentence: what sums are worth. */
public final class SumTermsTest {
    private static final String CITY = "part a air 4;part b air 16;part d air 9;near a b;near b d;";

    public static void main(String[] args) {
        Check c = new Check("SumTermsTest");
        sums(c);
        products(c);
        numbers(c);
        kinds(c);
        own(c);
        mostAndLeast(c);
        nightAndGales(c);
        told(c);
        fromTheLeft(c);
        division(c);
        limits(c);
        without(c);
        c.finish();
    }

    /** The SUM is worth this for part 0, asked by a question and, if it is 0 .. 20, told by each rule. */
    private static void worth(Check c, String sum, int value) {
        NightForecast x = c.city(CITY);
        c.ask(x, "most (1-min(number,1))*(" + sum + ")-min(number,1)*9999*9999", value);
        if (value >= 0 && value <= 20) {
            c.due("says " + sum, c.city(CITY + "says " + sum + ";").tonight(0, 0), value);
            c.due("rival " + sum, c.city(CITY + "rival " + sum + ";").tonight(0, 1), value);
            c.due("turns " + sum, c.city(CITY + "turns " + sum + ";").tonight(0, 3), value);
        }
    }

    private static void sums(Check c) {
        c.term(9, "SUM: PRODUCT { + or - PRODUCT }.");
        worth(c, "7", 7);
        worth(c, "7+5", 12);
        worth(c, "7-5", 2);
        worth(c, "5-7", -2);
        worth(c, "9-3-2+1", 5);
        worth(c, "2*3+4*2", 14);
        worth(c, "20-2*3", 14);
        worth(c, "1" + "+1".repeat(19), 20);
        c.cityFault("says 7+;", 1, 7);
        c.cityFault("says -7;", 1, 5);
        c.cityFault("says 7 5;", 1, 7);
    }

    private static void products(Check c) {
        c.term(9, "PRODUCT: PART { * or / PART }.");
        worth(c, "3*5", 15);
        worth(c, "15/3", 5);
        worth(c, "2*2*2*2", 16);
        worth(c, "7/2*2", 6);
        worth(c, "7*2/4", 3);
        c.cityFault("says 7*;", 1, 7);
        c.cityFault("says /7;", 1, 5);
    }

    private static void numbers(Check c) {
        c.term(9, "PART: N (1 to 4 digits)");
        worth(c, "0", 0);
        worth(c, "9", 9);
        worth(c, "0009", 9);
        worth(c, "9999-9990", 9);
        worth(c, "9999", 9999);
        worth(c, "1000/100", 10);
        c.cityFault("says 10000;", 1, 9);
        c.cityFault("says 00009;", 1, 9);
    }

    private static void kinds(Check c) {
        c.term(9, "; air; most; least; night; gales; ( SUM ) ; min ( SUM , SUM ) ; max ( SUM , SUM ) ; in turns: told.");
        worth(c, "air", 4);
        worth(c, "most", 16);
        worth(c, "least", 16);
        worth(c, "night", 0);
        worth(c, "gales", 1);
        worth(c, "(2+3)*(1+1)", 10);
        worth(c, "(((((7)))))", 7);
        worth(c, "min(3,8)", 3);
        worth(c, "min(8,3)", 3);
        worth(c, "max(3,8)", 8);
        worth(c, "max(8,3)", 8);
        worth(c, "max(3,3)+min(3,3)", 6);
        worth(c, "min(3-5,0-1)", -2);
        worth(c, "max(3-5,0-1)+5", 4);
        worth(c, "min(2+3*4,max(9,1))", 9);
        c.due("turns told+1", c.city(CITY + "says 7;turns told+1;").tonight(0, 3), 8);
        c.cityFault("says told;", 1, 5);
        c.cityFault("rival told;", 1, 6);
        c.cityFault("says min(1);", 1, 10);
        c.cityFault("says max(1,2,3);", 1, 12);
        c.cityFault("says ();", 1, 6);
    }

    private static void own(Check c) {
        c.term(9, "(Of a PART its air");
        NightForecast x = c.city(CITY + "says air;turns air;rival air;");
        int[] air = {4, 16, 9};
        for (int p = 0; p < 3; p++) {
            c.due("tonight(" + p + ", 0)", x.tonight(p, 0), air[p]);
            c.due("tonight(" + p + ", 1)", x.tonight(p, 1), air[p]);
            c.due("tonight(" + p + ", 3)", x.tonight(p, 3), air[p]);
        }
    }

    private static void mostAndLeast(Check c) {
        c.term(9, "; the most, the least air of those near it that have no aunt, its own without");
        NightForecast x = c.city(CITY + "part e air 20;says most;rival least;");
        extremes(c, x, 0, 16, 16);
        extremes(c, x, 1, 9, 4);
        extremes(c, x, 2, 16, 16);
        extremes(c, x, 3, 20, 20);
        x.aunt(2, 1);
        extremes(c, x, 1, 4, 4);
        extremes(c, x, 2, 16, 16);
        x.aunt(0, 1);
        extremes(c, x, 1, 16, 16);
        x.aunt(1, 1);
        extremes(c, x, 0, 4, 4);
        extremes(c, x, 2, 9, 9);
        x.aunt(0, 0);
        extremes(c, x, 1, 4, 4);
        x = c.city("part a air 0;part b air 20;part d air 5;near a b;near a d;near b d;says most;rival least;");
        extremes(c, x, 0, 20, 5);
        extremes(c, x, 1, 5, 0);
        extremes(c, x, 2, 20, 0);
        x.deaf(1, 1);
        extremes(c, x, 0, 20, 5);
        x = c.city("part a air 0;part b air 0;part d air 20;near a b;near d b;says most;rival least;aunt d;");
        extremes(c, x, 1, 0, 0);
        x = c.city("part a air 9;part b air 20;near a b;says most;rival least;");
        extremes(c, x, 0, 20, 20);
    }

    private static void extremes(Check c, NightForecast x, int part, int most, int least) {
        c.due("most of " + part, x.tonight(part, 0), most);
        c.due("least of " + part, x.tonight(part, 1), least);
    }

    private static void nightAndGales(Check c) {
        c.term(9, "; the NIGHT; in how many PARTS there is a GALE");
        NightForecast x = c.city("part a air 14;part b air 15;part d air 20;says night;turns air;rival gales;");
        c.due("night", x.tonight(0, 0), 0);
        c.due("gales", x.tonight(0, 1), 2);
        x.nights(7);
        c.due("night", x.tonight(0, 0), 7);
        c.turnOn(x, 999, 15, 0, 255, 15, 1, 255, 15, 2, 255);
        c.due("gales with aunt and DEAF", x.tonight(0, 1), 3);
        c.ask(x, "most night", 999);
        c.turnOn(x, 999, 14, 0, 255, 14, 0, 255, 14, 0, 255);
        c.due("gales: none", x.tonight(0, 1), 0);
    }

    private static void told(Check c) {
        c.term(9, "; what it is told.)");
        NightForecast x = c.city(CITY + "says air+2;turns told+1;deaf b;");
        c.due("turns told+1", x.tonight(0, 3), 7);
        c.due("turns told+1 of a DEAF one", x.tonight(1, 3), 17);
        x.hush(2);
        c.due("turns told+1 when nothing is READ", x.tonight(2, 3), 10);
        x.read(0, 0);
        c.due("turns told+1 by an ACT", x.tonight(0, 3), 1);
    }

    private static void fromTheLeft(Check c) {
        c.term(9, "All from the left on");
        worth(c, "9-3-2", 4);
        worth(c, "9-3+2", 8);
        worth(c, "16/4/2", 2);
        worth(c, "16/4*2", 8);
        worth(c, "3*5/2", 7);
        worth(c, "5/2*3", 6);
        worth(c, "20-8/2/2", 18);
        worth(c, "9999*9999-9999*9999", 0);
        worth(c, "9999*1000-9999+9999", 1000000);
    }

    private static void division(Check c) {
        c.term(9, "; / gives the greatest whole number not above, by 0 it gives 0");
        worth(c, "7/2", 3);
        worth(c, "6/2", 3);
        worth(c, "1/2", 0);
        worth(c, "0/5", 0);
        worth(c, "(0-7)/2", -4);
        worth(c, "7/(0-2)", -4);
        worth(c, "(0-7)/(0-2)", 3);
        worth(c, "(0-6)/2", -3);
        worth(c, "(0-1)/9999", -1);
        worth(c, "1/(0-9999)", -1);
        worth(c, "7/0", 0);
        worth(c, "0/0", 0);
        worth(c, "(0-7)/0", 0);
        worth(c, "7/(3-3)+5", 5);
    }

    private static void limits(Check c) {
        c.term(9, "; each sum, difference, product above 10 to the 6 is that, below -10 to the 6 likewise.");
        worth(c, "1000*1000", 1000000);
        worth(c, "1000*1000+1", 1000000);
        worth(c, "1000*1000+1-1", 999999);
        worth(c, "1000*1000-1", 999999);
        worth(c, "9999*100+100", 1000000);
        worth(c, "9999*100+101", 1000000);
        worth(c, "9999*100+99", 999999);
        worth(c, "1001*1000", 1000000);
        worth(c, "9999*9999", 1000000);
        worth(c, "9999*9999*9999*9999", 1000000);
        worth(c, "0-1000*1000", -1000000);
        worth(c, "0-1000*1000-1", -1000000);
        worth(c, "0-1000*1000-1+1", -999999);
        worth(c, "(0-9999)*9999", -1000000);
        worth(c, "(0-9999)*(0-9999)", 1000000);
        worth(c, "(0-9999*9999)*(9999*9999)", -1000000);
        worth(c, "9999*9999/1000/100", 10);
        worth(c, "9999*9999-(0-9999*9999)", 1000000);
        worth(c, "(0-9999*9999)-9999*9999+1", -999999);
    }

    private static void without(Check c) {
        c.term(9, "Without: says is air, rival is most, turns is told.");
        NightForecast x = c.city(CITY);
        c.due("tonight(0, 0)", x.tonight(0, 0), 4);
        c.due("tonight(0, 1)", x.tonight(0, 1), 16);
        c.due("tonight(1, 1)", x.tonight(1, 1), 9);
        c.due("tonight(0, 3)", x.tonight(0, 3), 4);
        x.read(0, 11);
        c.due("tonight(0, 3) of what is READ", x.tonight(0, 3), 11);
        x = c.city(CITY + "says 7;");
        c.due("tonight(0, 1) with says alone", x.tonight(0, 1), 16);
        c.due("tonight(0, 3) with says alone", x.tonight(0, 3), 7);
        x = c.city(CITY + "turns 7;");
        c.due("tonight(0, 0) with turns alone", x.tonight(0, 0), 4);
        c.due("tonight(0, 1) with turns alone", x.tonight(0, 1), 16);
        x = c.city(CITY + "rival 7;");
        c.due("tonight(0, 0) with rival alone", x.tonight(0, 0), 4);
        c.due("tonight(0, 3) with rival alone", x.tonight(0, 3), 4);
        Check.tell(x, CITY + "says 7;rival 7;turns 7;");
        x.city();
        Check.tell(x, CITY);
        x.city();
        c.due("tonight(0, 0): nothing of the city ahead", x.tonight(0, 0), 4);
        c.due("tonight(0, 1): nothing of the city ahead", x.tonight(0, 1), 16);
        c.due("tonight(0, 3): nothing of the city ahead", x.tonight(0, 3), 4);
    }
}
