/** Terms IV, sentence by sentence: questions, their faults, and an image's bytes. */
public final class QuestionTermsTest {
    // Air 4, 16, 9; d has the aunt, a is DEAF, b lies near both others.
    private static final String CITY = "part a air 4;part b air 16;part d air 9;near a b;near b d;aunt d;deaf a;says 12;";

    public static void main(String[] args) {
        Check c = new Check("QuestionTermsTest");
        firstAndLast(c);
        often(c);
        total(c);
        mostAndLeast(c);
        withoutParts(c);
        orTests(c);
        andFacts(c);
        facts(c);
        signs(c);
        sumsOfQuestions(c);
        partsNumber(c);
        toldTonight(c);
        auntAndDeaf(c);
        liesNear(c);
        faultText(c);
        faultWords(c);
        faultBehind(c);
        faultDepth(c);
        openUntil(c);
        depthPlace(c);
        imageNight(c);
        imageParts(c);
        imageActs(c);
        imageCheck(c);
        c.finish();
    }

    private static NightForecast three(Check c) {
        return c.city(CITY);
    }

    private static void firstAndLast(Check c) {
        c.term(29, "A QUESTION is a text, of all PARTS: first TEST, last TEST (the first, the last PART for which it holds)");
        NightForecast x = three(c);
        c.ask(x, "first all", 0);
        c.ask(x, "last all", 2);
        c.ask(x, "first air>4", 1);
        c.ask(x, "last air<16", 2);
        c.ask(x, "last air<9", 0);
        c.ask(x, "first air=9", 2);
        c.ask(x, "last air=16", 1);
        c.ask(x, "first air=16", 1);
        x = c.city(seven());
        c.ask(x, "first air=6", 6);
        c.ask(x, "last all", 6);
        c.ask(x, "last air<1", 0);
    }

    private static String seven() {
        StringBuilder text = new StringBuilder();
        for (int p = 0; p < 7; p++) {
            text.append("part ").append((char) ('a' + p)).append(" air ").append(p).append(';');
        }
        return text.toString();
    }

    private static void often(Check c) {
        c.term(29, "often TEST (for how many)");
        NightForecast x = three(c);
        c.ask(x, "often all", 3);
        c.ask(x, "often air>4", 2);
        c.ask(x, "often air=16", 1);
        c.ask(x, "often air>16", 0);
        c.ask(c.city(seven()), "often all", 7);
    }

    private static void total(Check c) {
        c.term(29, "total SUM (of all together)");
        NightForecast x = three(c);
        c.ask(x, "total air", 29);
        c.ask(x, "total 0", 0);
        c.ask(x, "total 0-air", -29);
        c.ask(x, "total 9999", 29997);
        c.ask(x, "total 1000*1000", 3000000);
        c.ask(x, "total 0-1000*1000", -3000000);
        c.ask(c.city(seven()), "total 9999*9999", 7000000);
        c.ask(c.city(seven()), "total 0-9999*9999", -7000000);
    }

    private static void mostAndLeast(Check c) {
        c.term(29, "most SUM, least SUM (the greatest, the least of all");
        NightForecast x = three(c);
        c.ask(x, "most air", 16);
        c.ask(x, "least air", 4);
        c.ask(x, "most 0-air", -4);
        c.ask(x, "least 0-air", -16);
        c.ask(x, "most most", 16);
        c.ask(x, "least least", 4);
        c.ask(x, "most 7", 7);
        c.ask(x, "least 7", 7);
        c.ask(x, "most number", 2);
        c.ask(x, "least number", 0);
        c.ask(x, "least 9999*9999", 1000000);
        c.ask(x, "most 0-9999*9999", -1000000);
        c.ask(c.city("part a air 3;"), "most 0-air", -3);
        c.ask(c.city("part a air 3;"), "least air", 3);
    }

    private static void withoutParts(Check c) {
        c.term(29, "; 0 without PARTS).");
        NightForecast x = new NightForecast();
        c.ask(x, "most 5", 0);
        c.ask(x, "least 5", 0);
        c.ask(x, "most 0-5", 0);
        c.ask(x, "least 0-5", 0);
        c.ask(x, "total 5", 0);
        c.ask(x, "often all", 0);
        c.ask(c.city("gale 3;"), "most 5", 0);
    }

    private static void orTests(Check c) {
        c.term(29, "TEST: BOTH { or BOTH }.");
        NightForecast x = three(c);
        c.ask(x, "often air=4 or air=9", 2);
        c.ask(x, "often air=4 or air=4", 1);
        c.ask(x, "often air=4 or air=9 or air=16", 3);
        c.ask(x, "often air=1 or air=2 or air=3 or air=5", 0);
        c.ask(x, "often all or not all", 3);
        c.ask(x, "often not all or all", 3);
        c.ask(x, "often air=1 and air=2 or air=9", 1);
        c.ask(x, "often air=9 or air=1 and air=2", 1);
        c.ask(x, "often air=9 or air=4 and air=4", 2);
        c.ask(x, "often not all" + " or not all".repeat(140) + " or air=9", 1);
    }

    private static void andFacts(Check c) {
        c.term(29, "BOTH: FACT { and FACT }.");
        NightForecast x = three(c);
        c.ask(x, "often air>4 and air<16", 1);
        c.ask(x, "often air>3 and air<17 and air<16", 2);
        c.ask(x, "often all and all", 3);
        c.ask(x, "often all and not all", 0);
        c.ask(x, "often not all and all", 0);
        c.ask(x, "often air=4 and air=4 or air=9 and air=9", 2);
        c.ask(x, "often all" + " and all".repeat(190) + " and air=9", 1);
    }

    private static void facts(Check c) {
        c.term(29, "FACT: not FACT; [ TEST ] ; all; SUM SIGN SUM");
        NightForecast x = three(c);
        c.ask(x, "often not air=4", 2);
        c.ask(x, "often not not air=4", 1);
        c.ask(x, "often not not not air=4", 2);
        c.ask(x, "often not air=4 and air=9", 1);
        c.ask(x, "often not air=4 or air=4", 3);
        c.ask(x, "often not[air=4 or air=9]", 1);
        c.ask(x, "often [air=4 or air=9]and air=9", 1);
        c.ask(x, "often air=9 and[air=4 or all]", 1);
        c.ask(x, "often [[air=4]or[air=9]]", 2);
        c.ask(x, "often[all]", 3);
        c.ask(x, "often all", 3);
        c.ask(x, "often air+5=9", 1);
        c.ask(x, "often 9=air+5", 1);
        c.ask(x, "often air*air>4*most", 2);
        c.askFault(x, "often air", 1, 9);
        c.askFault(x, "often [air]", 1, 10);
        c.askFault(x, "often (air=4)", 1, 10);
        c.askFault(x, "often [all)", 1, 10);
        c.askFault(x, "often all=1", 1, 9);
        c.askFault(x, "often []", 1, 7);
    }

    private static void signs(Check c) {
        c.term(29, "SIGN < or > or = .");
        NightForecast x = three(c);
        c.ask(x, "often air<9", 1);
        c.ask(x, "often air>9", 1);
        c.ask(x, "often air=9", 1);
        c.ask(x, "often 0-1<0", 3);
        c.ask(x, "often 0-1>0", 0);
        c.ask(x, "often 9999*9999=1000*1000", 3);
        c.askFault(x, "often air!9", 1, 9);
        c.askFault(x, "often air<=9", 1, 10);
        c.askFault(x, "often air<>9", 1, 10);
        c.askFault(x, "often air==9", 1, 10);
        c.askFault(x, "often 4<air<9", 1, 11);
    }

    private static void sumsOfQuestions(Check c) {
        c.term(29, "SUM as in I, but PART: N; number; air; most; least; night; gales; told; aunt; deaf; near PART;");
        c.term(29, "near PART; ( SUM ) ; min ( SUM , SUM ) ; max ( SUM , SUM ) .");
        NightForecast x = three(c);
        c.ask(x, "total 7", 21);
        c.ask(x, "total number", 3);
        c.ask(x, "total air", 29);
        c.ask(x, "total most", 16 + 4 + 16);
        c.ask(x, "total least", 16 + 4 + 16);
        c.ask(x, "total night", 0);
        c.ask(x, "total gales", 3);
        c.ask(x, "total told", 4 + 12 + 12);
        c.ask(x, "total aunt", 1);
        c.ask(x, "total deaf", 1);
        c.ask(x, "total near 1", 2);
        c.ask(x, "total (2+3)*4", 60);
        c.ask(x, "total min(air,9)", 22);
        c.ask(x, "total max(air,9)", 34);
        c.ask(x, "total 9-3-2", 12);
        c.ask(x, "total 2+3*4", 42);
        c.ask(x, "total (0-7)/2", -12);
        c.ask(x, "total 7/0", 0);
        c.ask(x, "total 7/(air-4)", 1);
        c.ask(x, "total 9999*9999-1", 2999997);
        x.nights(2);
        c.ask(x, "total night", 6);
        c.askFault(x, "total says", 1, 6);
        c.askFault(x, "total rival", 1, 6);
        c.askFault(x, "total gale", 1, 6);
        c.askFault(x, "total slip", 1, 6);
        c.askFault(x, "total read", 1, 6);
        c.askFault(x, "total part", 1, 6);
        c.askFault(x, "total all", 1, 6);
    }

    private static void partsNumber(Check c) {
        c.term(29, "(The PART's number");
        NightForecast x = c.city(seven());
        for (int p = 0; p < 7; p++) {
            c.ask(x, "first number=" + p, p);
            c.ask(x, "last number=" + p, p);
        }
        c.ask(x, "often number=7", 0);
        c.ask(x, "total number", 21);
    }

    private static void toldTonight(Check c) {
        c.term(29, "; what it is TOLD tonight");
        NightForecast x = three(c);
        c.ask(x, "total told", 4 + 12 + 12);
        x.read(1, 0);
        c.ask(x, "total told", 4 + 0 + 12);
        x.read(0, 20);
        c.ask(x, "total told", 4 + 0 + 12);
        x.hush(2);
        c.ask(x, "total told", 4 + 0 + 9);
        x.deaf(0, 0);
        c.ask(x, "total told", 20 + 0 + 9);
        x.nights(1);
        c.ask(x, "total told", 36);
        c.ask(c.city("part a air 4;says 0-9;"), "total told", 0);
        c.ask(c.city("part a air 4;says 21;"), "total told", 20);
    }

    private static void auntAndDeaf(Check c) {
        c.term(29, "; 1 if an aunt is there, if it is DEAF, else 0");
        NightForecast x = three(c);
        c.ask(x, "first aunt=1", 2);
        c.ask(x, "often aunt=0", 2);
        c.ask(x, "first deaf=1", 0);
        c.ask(x, "often deaf=0", 2);
        x.aunt(2, 0);
        x.aunt(0, 1);
        x.deaf(0, 0);
        x.deaf(1, 1);
        c.ask(x, "first aunt=1", 0);
        c.ask(x, "total aunt", 1);
        c.ask(x, "first deaf=1", 1);
        c.ask(x, "total deaf", 1);
        c.ask(x, "most aunt+deaf", 1);
    }

    private static void liesNear(Check c) {
        c.term(29, "; 1 if the PART of that number lies near it, else 0.)");
        NightForecast x = three(c);
        c.ask(x, "total near 0", 1);
        c.ask(x, "first near 0=1", 1);
        c.ask(x, "total near 1", 2);
        c.ask(x, "first near 1=1", 0);
        c.ask(x, "last near 1=1", 2);
        c.ask(x, "total near 2", 1);
        c.ask(x, "total near number", 0);
        c.ask(x, "total near (number+1)", 2);
        c.ask(x, "total near (number-1)", 2);
        c.ask(x, "total near near 1", 3);
        c.ask(x, "total near 1*5", 10);
        c.ask(x, "total near 1+1", 5);
        c.ask(x, "total near min(1,2)", 2);
        String[] none = {"3", "6", "7", "31", "32", "33", "64", "9999", "(0-1)", "(0-31)", "(9999*9999)", "(0-9999*9999)"};
        for (String number : none) {
            c.ask(x, "total near " + number, 0);
        }
        x = c.city(seven() + "near a g;near g b;");
        c.ask(x, "total near 6", 2);
        c.ask(x, "last near 0=1", 6);
        c.ask(x, "total near 7", 0);
        c.ask(x, "total near (0-1)", 0);
    }

    private static void faultText(Check c) {
        c.term(29, "Its FAULTS: 1 as in I");
        String[] cuts = {
            "", "  \n", "first", "last ", "often", "total", "most", "least \n", "first not", "first [", "first [all",
            "first all or", "first all and ", "first air", "first air<", "total 1+", "total 1*", "total (", "total (1",
            "total min", "total min(", "total min(1", "total min(1,", "total max(1,1", "total near", "total near ("
        };
        for (String cut : cuts) {
            c.askFault(three(c), cut, 1, cut.length());
        }
        NightForecast x = three(c);
        c.askFault(x, "#", 1, 0);
        c.askFault(x, " 5", 1, 1);
        c.askFault(x, "total 12345", 1, 10);
        c.askFault(x, "total 00001", 1, 10);
        c.ask(x, "total 0001", 3);
        c.askFault(x, "total +1", 1, 6);
        c.askFault(x, "total -1", 1, 6);
        c.askFault(x, "total 5 5", 1, 8);
        c.askFault(x, "total5", 1, 5);
        c.askFault(x, "total near0", 1, 10);
        c.askFault(x, "often air>5and all", 1, 11);
        c.askFault(x, "often not5=5", 1, 9);
        c.askFault(x, "total\t5", 1, 5);
        c.askFault(x, "total (1,2)", 1, 8);
        c.askFault(x, "total min(1)", 1, 11);
        c.askFault(x, "total max(1,2,3)", 1, 13);
        c.ask(x, "\n total\n5\n", 15);
        c.askFault(x, " ".repeat(1594) + "total ", 1, 1600);
    }

    private static void faultWords(Check c) {
        c.term(29, "(an unknown word at its first byte");
        NightForecast x = three(c);
        String[] heads = {"first", "last", "often", "total", "most", "least"};
        for (String head : heads) {
            c.askFault(x, "x" + head.substring(1) + " all", 1, 0);
            c.askFault(x, head.substring(0, head.length() - 1) + " all", 1, 0);
            c.askFault(x, head + "s all", 1, 0);
        }
        x = three(c);
        c.askFault(x, "  never all", 1, 2);
        c.askFault(x, "air", 1, 0);
        c.askFault(x, "number", 1, 0);
        c.askFault(x, "First all", 1, 0);
        c.askFault(x, "total airs", 1, 6);
        c.askFault(x, "total ai", 1, 6);
        c.askFault(x, "total abcdefghijk", 1, 6);
        c.askFault(x, "total air + dollis", 1, 12);
        c.askFault(x, "total xir", 1, 6);
        c.askFault(x, "total xumber", 1, 6);
        c.askFault(x, "often xll", 1, 6);
        c.askFault(x, "often xot all", 1, 6);
        c.askFault(x, "often all xnd all", 1, 10);
        c.askFault(x, "often all xr all", 1, 10);
        c.askFault(x, "often alls", 1, 6);
        c.askFault(x, "often not nought", 1, 10);
        c.askFault(x, "often all xor all", 1, 10);
        c.askFault(x, "often all o", 1, 10);
        c.askFault(x, "total a", 1, 6);
        c.askFault(x, "total first", 1, 6);
        c.askFault(x, "total total", 1, 6);
    }

    private static void faultBehind(Check c) {
        c.term(29, "; what stands behind it, too)");
        NightForecast x = three(c);
        c.askFault(x, "first all all", 1, 10);
        c.askFault(x, "first all;", 1, 9);
        c.askFault(x, "first all ]", 1, 10);
        c.askFault(x, "often air=4)", 1, 11);
        c.askFault(x, "often air=4 or all last all", 1, 19);
        c.askFault(x, "total 5;", 1, 7);
        c.askFault(x, "total 5)", 1, 7);
        c.askFault(x, "total 5 air", 1, 8);
        c.askFault(x, "total 5=5", 1, 7);
        c.askFault(x, "total 5 or 5", 1, 8);
        c.askFault(x, "total 5 \u0000", 1, 8);
        c.askFault(x, "total near 1 1", 1, 13);
        c.ask(x, "total 5 \n \n", 15);
    }

    private static void faultDepth(Check c) {
        c.term(29, "4 the 7th of ( [ not near that is open at once");
        NightForecast x = three(c);
        c.ask(x, "total ((((((5))))))", 15);
        c.askFault(x, "total (((((((5)))))))", 4, 12);
        c.ask(x, "often [[[[[[all]]]]]]", 3);
        c.askFault(x, "often [[[[[[[all]]]]]]]", 4, 12);
        c.ask(x, "often " + "not ".repeat(6) + "all", 3);
        c.askFault(x, "often " + "not ".repeat(7) + "all", 4, 30);
        c.ask(x, "total " + "near ".repeat(6) + "1", 3);
        c.askFault(x, "total " + "near ".repeat(7) + "1", 4, 36);
        c.ask(x, "total min(min(min(min(min(min(1,2),3),4),5),6),7)", 3);
        c.askFault(x, "total min(min(min(min(min(min(min(1", 4, 33);
        // Kinds together: not, [, not, [, near and ( are six.
        c.ask(x, "often not [not [near (1)=1]]", 2);
        c.askFault(x, "often not [not [near ((1))=1]]", 4, 22);
        c.askFault(x, "often not [not [near (near 1)=1]]", 4, 22);
        c.askFault(x, "often not [not [near (max(1,1))=1]]", 4, 25);
        c.ask(x, "often not [not [not [all]]]", 0);
        c.askFault(x, "often not [not [not [not all]]]", 4, 21);
        c.askFault(x, "often not [not [not [[all]]]]", 4, 21);
        c.askFault(x, "often not [not [not [(1)=1]]]", 4, 21);
        c.askFault(x, "often not [not [not [near 1=1]]]", 4, 21);
    }

    private static void openUntil(Check c) {
        c.term(29, "(not until its FACT, near until its PART ends)");
        NightForecast x = three(c);
        c.ask(x, "often not all and [[[[[[all]]]]]]", 0);
        c.ask(x, "often not all or [[[[[[all]]]]]]", 3);
        c.ask(x, "often " + "not ".repeat(6) + "all or " + "not ".repeat(6) + "all", 3);
        c.ask(x, "often not [all] or ((((((1))))))=1", 3);
        c.ask(x, "often not (((((1)))))=(((((1)))))", 0);
        c.askFault(x, "often not ((((((1))))))=1", 4, 15);
        c.askFault(x, "often not 1>((((((1))))))", 4, 17);
        c.askFault(x, "often not air>((((((1))))))", 4, 19);
        c.askFault(x, "often not all and not [[[[[[all]]]]]]", 4, 27);
        c.ask(x, "total near 1+((((((1))))))", 5);
        c.ask(x, "total near 1*((((((1))))))", 2);
        c.ask(x, "total near 1" + "*near 1".repeat(9), 2);
        c.ask(x, "often near 1=1 and [[[[[[all]]]]]]", 2);
        c.ask(x, "total near (((((1)))))", 2);
        c.askFault(x, "total near ((((((1))))))", 4, 16);
        c.ask(x, "total near (((((1)))))+((((((1))))))", 5);
        c.ask(x, "total ((((((1))))))+((((((1))))))", 6);
        c.ask(x, "often [[[[[[all]]]]]] or [[[[[[all]]]]]]", 3);
        c.ask(x, "total min((((((1))))),(((((2))))))", 3);
        c.askFault(x, "total min((((((1))))),((((((2", 4, 27);
    }

    private static void depthPlace(Check c) {
        c.term(29, "ends), at it.");
        NightForecast x = three(c);
        c.askFault(x, "total ((((((  (5", 4, 14);
        c.askFault(x, "total ((((((min (5,5", 4, 16);
        c.askFault(x, "total ((((((min 5", 1, 16);
        c.askFault(x, "often not not not not not not\n not", 4, 31);
        c.askFault(x, "often [[[[[[[", 4, 12);
        c.askFault(x, "often [[[[[[[#", 4, 12);
        c.askFault(x, "often [[[[[[#", 1, 12);
        c.askFault(x, "total # (((((((", 1, 6);
        c.askFault(x, "total near near near near near near near", 4, 36);
        c.askFault(x, "total near near near near near near", 1, 35);
        c.askFault(x, "total (((((((99999", 4, 12);
    }

    private static void imageNight(Check c) {
        c.term(30, "AN IMAGE: NIGHT (two bytes, the higher first)");
        int[][] nights = {{0, 0, 0}, {1, 0, 1}, {255, 0, 255}, {256, 1, 0}, {300, 1, 44}, {767, 2, 255}, {768, 3, 0}, {999, 3, 231}};
        NightForecast x = c.city("part a air 4;");
        for (int[] row : nights) {
            c.turnOn(x, row[0], 4, 0, 255);
            c.due("image()", x.image(), 6);
            c.due("octet(0) at " + row[0], x.octet(0), row[1]);
            c.due("octet(1) at " + row[0], x.octet(1), row[2]);
        }
        x = new NightForecast();
        x.nights(100);
        x.nights(100);
        x.nights(57);
        x.image();
        c.due("octet(0) at 257", x.octet(0), 1);
        c.due("octet(1) at 257", x.octet(1), 1);
    }

    private static void row(Check c, NightForecast x, int part, int air, int flags, int act) {
        c.due("air of " + part, x.octet(2 + 3 * part), air);
        c.due("aunt and DEAF of " + part, x.octet(3 + 3 * part), flags);
        c.due("ACTS of " + part, x.octet(4 + 3 * part), act);
    }

    private static void imageParts(Check c) {
        c.term(30, "; for each PART its air, 1 for an aunt and 2 if it is DEAF together");
        NightForecast x = c.city("part a air 4;part b air 9;part d air 20;part e air 0;aunt b;aunt e;deaf b;deaf d;");
        c.due("image()", x.image(), 15);
        row(c, x, 0, 4, 0, 255);
        row(c, x, 1, 9, 3, 255);
        row(c, x, 2, 20, 2, 255);
        row(c, x, 3, 0, 1, 255);
        x.aunt(0, 1);
        x.deaf(1, 0);
        x.aunt(2, 1);
        x.aunt(3, 0);
        x.read(0, 20);
        x.nights(1);
        x.image();
        row(c, x, 0, 20, 1, 255);
        row(c, x, 1, 9, 1, 255);
        row(c, x, 2, 20, 3, 255);
        row(c, x, 3, 0, 0, 255);
        x = c.city(seven() + "aunt g;deaf g;");
        c.due("image() of seven", x.image(), 24);
        row(c, x, 6, 6, 3, 255);
        c.due("image() without PARTS", new NightForecast().image(), 3);
    }

    private static void imageActs(Check c) {
        c.term(30, "what ACTS tell for tonight (0 .. 20; 254 nothing; 255 none)");
        NightForecast x = c.city("part a air 4;part b air 9;says 7;");
        for (int number = 0; number <= 20; number++) {
            x.read(1, number);
            x.image();
            row(c, x, 0, 4, 0, 255);
            row(c, x, 1, 9, 0, number);
        }
        x.hush(0);
        x.image();
        row(c, x, 0, 4, 0, 254);
        x.undo();
        x.image();
        row(c, x, 0, 4, 0, 255);
        x.read(0, 7);
        x.image();
        row(c, x, 0, 4, 0, 7);
        x.nights(1);
        x.image();
        row(c, x, 0, 7, 0, 255);
        row(c, x, 1, 20, 0, 255);
        c.turnOn(x, 5, 4, 0, 254, 9, 0, 20);
        x.image();
        row(c, x, 0, 4, 0, 254);
        row(c, x, 1, 9, 0, 20);
    }

    private static void imageCheck(Check c) {
        c.term(30, "last a byte: all ahead from 137 on, c = (3 c + it) mod 251.");
        // By hand: 137, then 160 and 229 by the NIGHT 0; of it 189, 65, 199 by the row 4, 0, 255.
        NightForecast x = new NightForecast();
        x.image();
        c.due("octet(2) of NIGHT 0", x.octet(2), 229);
        x.nights(7);
        x.image();
        c.due("octet(2) of NIGHT 7", x.octet(2), 236);
        x = c.city("part a air 4;");
        x.image();
        c.due("octet(5) of one row", x.octet(5), 199);
        Check.tell(x, 0, 0, 4, 0, 255, 199);
        c.due("on() of it", x.on(), true);
        Check.tell(x, 0, 0, 4, 0, 255, 198);
        c.due("on() of one less", x.on(), false);
        Check.tell(x, 0, 0, 4, 0, 255, 200);
        c.due("on() of one more", x.on(), false);
        // Beyond 250 a byte can't be it, though its rest by 251 would be.
        checkIsSmall(c);
    }

    private static void checkIsSmall(Check c) {
        int found = 0;
        for (int night = 0; night <= 999; night++) {
            int[] bytes = Check.image(night);
            if (bytes[2] < 5) {
                found++;
                NightForecast x = new NightForecast();
                bytes[2] += 251;
                Check.tell(x, bytes);
                c.due("on() of a last byte of " + bytes[2], x.on(), false);
            }
        }
        c.due("there are such NIGHTS", found > 0, true);
    }
}
