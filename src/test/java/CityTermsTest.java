/** Terms I, sentence by sentence: the text of a city, its limits and its faults. */
public final class CityTermsTest {
    private static final String P = "part p air 1;";
    private static final String PQ = "part p air 1;part q air 2;";
    private static final String OWN = "part air near aunt deaf says rival turns gale slip most least night gales told"
        + " number read first or and not all min max";

    public static void main(String[] args) {
        Check c = new Check("CityTermsTest");
        statements(c);
        partStatement(c);
        nearStatement(c);
        auntAndDeaf(c);
        rules(c);
        galeAndSlip(c);
        names(c);
        ownWords(c);
        blanks(c);
        firstFault(c);
        faultText(c);
        faultNames(c);
        faultDigits(c);
        faultTooSoon(c);
        faultNumber(c);
        faultThere(c);
        faultNoName(c);
        faultSamePart(c);
        faultToldSo(c);
        faultDepth(c);
        faultKinds(c);
        faultStatements(c);
        c.finish();
    }

    private static String seven() {
        StringBuilder text = new StringBuilder();
        for (char name = 'a'; name < 'h'; name++) {
            text.append("part ").append(name).append(" air 1;");
        }
        return text.toString();
    }

    /** So many pairs of seven PARTS, none twice. */
    private static String pairs(int count) {
        StringBuilder text = new StringBuilder();
        int told = 0;
        for (char one = 'a'; one < 'h'; one++) {
            for (char other = 'a'; other < one && told < count; other++) {
                text.append("near ").append(one).append(' ').append(other).append(';');
                told++;
            }
        }
        return text.toString();
    }

    private static void statements(Check c) {
        c.term(4, "A CITY is a text: { STATEMENT ; } (80 at most)");
        c.city("", 0);
        c.city("slip 1;", 1);
        c.city("slip 1;".repeat(79), 79);
        c.city("slip 1;".repeat(80), 80);
        c.city("slip 1;".repeat(80) + "\n \n", 80);
        c.cityFault("slip 1;".repeat(81), 5, 560);
        c.cityFault("slip 1", 1, 6);
        c.cityFault("slip 1;;", 1, 7);
        c.cityFault(";", 1, 0);
        NightForecast x = c.city(P + "slip 1;".repeat(78) + "gale 1;", 80);
        c.due("part(0, 4): the 80th counts", x.part(0, 4), 1);
    }

    private static void partStatement(Check c) {
        c.term(4, "part NAME air N (0 .. 20; 7 PARTS)");
        for (int air = 0; air <= 20; air++) {
            c.due("part(0, 0)", c.city("part p air " + air + ";").part(0, 0), air);
        }
        c.cityFault("part p air 21;", 2, 11);
        c.cityFault("part p air 9999;", 2, 11);
        c.cityFault("part p air -1;", 1, 11);
        NightForecast x = c.city(seven(), 7);
        c.due("has(0)", x.has(0), 7);
        c.due("letter(6, 0)", x.letter(6, 0), 7);
        c.cityFault(seven() + "part h air 1;", 5, 91);
        c.cityFault("part p;", 1, 6);
        c.cityFault("part p 1;", 1, 7);
        c.cityFault("part p air 1 q air 1;", 1, 13);
    }

    private static void nearStatement(Check c) {
        c.term(4, "near NAME NAME (two unlike PARTS, not told in either order already; 12 of these)");
        NightForecast x = c.city(PQ + "near p q;");
        c.due("part(0, 3)", x.part(0, 3), 2);
        c.due("part(1, 3)", x.part(1, 3), 1);
        c.cityFault(PQ + "near p p;", 3, 33);
        c.cityFault(PQ + "near q q;", 3, 33);
        c.cityFault(PQ + "near p q;near p q;", 3, 42);
        c.cityFault(PQ + "near p q;near q p;", 3, 42);
        c.cityFault(PQ + "near p;", 1, 32);
        c.due("has(1) of 11", c.city(seven() + pairs(11)).has(1), 11);
        c.due("has(1) of 12", c.city(seven() + pairs(12)).has(1), 12);
        c.cityFault(seven() + pairs(13), 5, 91 + 108);
    }

    private static void auntAndDeaf(Check c) {
        c.term(4, "aunt NAME, deaf NAME (a PART, not told so already)");
        NightForecast x = c.city(PQ + "aunt p;deaf q;");
        c.due("part(0, 1)", x.part(0, 1), 1);
        c.due("part(1, 1)", x.part(1, 1), 0);
        c.due("part(0, 2)", x.part(0, 2), 0);
        c.due("part(1, 2)", x.part(1, 2), 1);
        x = c.city(PQ + "aunt q;aunt p;deaf p;deaf q;");
        c.due("has(4)", x.has(4), 2);
        c.due("has(5)", x.has(5), 2);
        c.cityFault(PQ + "aunt p;aunt p;", 3, 38);
        c.cityFault(PQ + "deaf q;deaf q;", 3, 38);
        c.cityFault(PQ + "aunt p;deaf p;aunt p;", 3, 45);
        c.cityFault(PQ + "aunt r;", 3, 31);
        c.cityFault(PQ + "deaf r;", 3, 31);
        c.cityFault(PQ + "aunt p q;", 1, 33);
    }

    private static void rules(Check c) {
        c.term(4, "says SUM, rival SUM, turns SUM (one each)");
        NightForecast x = c.city(P + "says 3;rival 4;turns 5;");
        c.due("tonight(0, 0)", x.tonight(0, 0), 3);
        c.due("tonight(0, 1)", x.tonight(0, 1), 4);
        c.due("tonight(0, 3)", x.tonight(0, 3), 5);
        x = c.city("turns 5;rival 4;" + P + "says 3;");
        c.due("tonight(0, 0)", x.tonight(0, 0), 3);
        c.due("tonight(0, 1)", x.tonight(0, 1), 4);
        c.due("tonight(0, 3)", x.tonight(0, 3), 5);
        c.cityFault("says 3;says 3;", 5, 7);
        c.cityFault("rival 3;rival 3;", 5, 8);
        c.cityFault("turns 3;turns 3;", 5, 8);
        c.cityFault("says;", 1, 4);
    }

    private static void galeAndSlip(Check c) {
        c.term(4, "gale N (1 .. 20), slip N (0 .. 100): the last one of each counts (15, 0 without)");
        for (int gale = 1; gale <= 20; gale++) {
            NightForecast x = c.city("gale " + gale + ";part p air " + (gale - 1) + ";part q air " + gale + ";");
            c.due("part(0, 4) of gale " + gale, x.part(0, 4), 0);
            c.due("part(1, 4) of gale " + gale, x.part(1, 4), 1);
        }
        c.cityFault("gale 0;", 2, 5);
        c.cityFault("gale 21;", 2, 5);
        c.city("slip 0;");
        c.due("chance(50) of slip 100", c.city(P + "slip 100;").chance(50), 50);
        c.cityFault("slip 101;", 2, 5);
        c.cityFault("slip -1;", 1, 5);
        NightForecast x = c.city("gale 20;gale 1;" + P + "slip 100;slip 0;");
        c.due("part(0, 4): the last gale", x.part(0, 4), 1);
        c.due("chance(50): the last slip", x.chance(50), 0);
        x = c.city("gale 1;slip 0;" + P + "gale 2;slip 100;");
        c.due("part(0, 4): the last gale", x.part(0, 4), 0);
        c.due("chance(50): the last slip", x.chance(50), 50);
        x = c.city("part p air 14;part q air 15;");
        c.due("part(0, 4) without gale", x.part(0, 4), 0);
        c.due("part(1, 4) without gale", x.part(1, 4), 1);
        c.due("chance(100) without slip", x.chance(100), 0);
    }

    private static void names(Check c) {
        c.term(4, "NAMES: 1 to 6 letters, no OWN WORD, unlike ones, told ahead of where they are asked.");
        c.city("part a air 1;part abcdef air 1;part abcde air 1;part z air 1;", 4);
        c.cityFault("part abcdefg air 1;", 1, 11);
        c.cityFault("part  air 1;", 1, 6);
        c.cityFault("part 1 air 1;", 1, 5);
        c.cityFault("part Ab air 1;", 1, 5);
        c.cityFault("part aB air 1;", 1, 6);
        c.cityFault("part a_ air 1;", 1, 6);
        c.cityFault("part ` air 1;", 1, 5);
        c.cityFault("part { air 1;", 1, 5);
        c.cityFault("part ab air 1;part ab air 1;", 3, 19);
        NightForecast x = c.city("part ab air 1;part ba air 2;part a air 3;part aab air 4;", 4);
        c.due("has(0) of unlike ones", x.has(0), 4);
        c.cityFault("aunt p;" + P, 3, 5);
        c.cityFault("deaf p;" + P, 3, 5);
        c.cityFault(P + "near p q;part q air 1;", 3, 20);
        c.city(P + "aunt p;part q air 1;near q p;deaf q;", 5);
    }

    private static void ownWords(Check c) {
        c.term(4, "OWN WORDS: part, air, near, aunt, deaf, says, rival, turns, gale, slip, most, least, night, gales");
        c.term(4, ", told, number, read, first, or, and, not, all, min, max.");
        for (String word : OWN.split(" ")) {
            c.cityFault("part " + word + " air 1;", 1, 5);
            c.cityFault(P + "aunt " + word + ";", 1, 18);
            c.cityFault(P + "deaf " + word + ";", 1, 18);
            c.cityFault(P + "near " + word + " p;", 1, 18);
            c.cityFault(P + "near p " + word + ";", 1, 20);
            c.city("part x" + word.substring(1) + " air 1;aunt x" + word.substring(1) + ";", 2);
            String begun = word.substring(0, word.length() - 1);
            if (!begun.equals("gale")) {
                c.city("part " + begun + " air 1;aunt " + begun + ";", 2);
            }
            if (word.length() < 6) {
                c.city("part " + word + "x air 1;aunt " + word + "x;", 2);
            }
        }
        c.city("part last air 1;part often air 1;part total air 1;aunt last;near often total;", 5);
    }

    private static void blanks(Check c) {
        c.term(4, "Blanks (10, 32) are where one likes (words and numbers side by side need one).");
        c.city("\n part\n\np \n air  1\n ;\n", 1);
        c.city("part\np air 1;part q air 1;aunt p;deaf\nq;near p\nq;", 5);
        c.cityFault("part\np air 1;part p", 3, 18);
        c.city("part p air 1;part q air 2;near p q;says(air+1)*2/most-min(1,2);", 4);
        c.city("says ( air + 1 ) * 2 / most - min ( 1 , 2 ) ; ", 1);
        c.city("says\n(\nair\n+\n1\n)\n*\n2\n;", 1);
        int[] others = {0, 9, 11, 12, 13, 31, 33, 127, 160, 255};
        for (int other : others) {
            c.cityFault("part p" + (char) other + "air 1;", 1, 6);
            c.cityFault((char) other + "part p air 1;", 1, 0);
            c.cityFault("part p air 1;" + (char) other, 1, 13);
        }
        c.cityFault("part p air1;", 1, 10);
        c.cityFault("part p1 air 1;", 1, 6);
        c.cityFault("gale1;", 1, 4);
        c.cityFault("says1;", 1, 4);
        c.cityFault("says 1air;", 1, 6);
        c.cityFault("says min1;", 1, 8);
        c.cityFault("says 1 2;", 1, 7);
        c.cityFault("partp air 1;", 1, 0);
        c.cityFault("says 1 +2 3;", 1, 10);
    }

    private static void firstFault(Check c) {
        c.term(5, "FAULTS, the first along the text");
        c.cityFault("part p air 21;part p air 1;#", 2, 11);
        c.cityFault(P + "part p air 21;#", 3, 18);
        c.cityFault("#part p air 21;", 1, 0);
        c.cityFault("gale 0 says (((((((", 2, 5);
        c.cityFault("says (((((((;gale 0;", 4, 11);
        c.cityFault("says 1;says ((((((((;", 5, 7);
        c.cityFault("aunt x 5", 3, 5);
        c.cityFault(seven() + "part a air 99;", 5, 91);
        c.cityFault("gale 21#", 2, 5);
    }

    private static void faultText(Check c) {
        c.term(5, "1 the first byte with which no such text goes on (words and numbers whole, at their first byte");
        c.cityFault("#", 1, 0);
        c.cityFault("  pert p air 1;", 1, 2);
        c.cityFault("par p air 1;", 1, 0);
        String[] heads = {"part", "near", "aunt", "deaf", "says", "rival", "turns", "gale", "slip"};
        for (String head : heads) {
            c.cityFault("x" + head.substring(1) + " 1;", 1, 0);
            c.cityFault(head.substring(0, head.length() - 1) + "x 1;", 1, 0);
            c.cityFault("x" + head + " 1;", 1, 0);
        }
        c.cityFault("part p xir 1;", 1, 7);
        // Beside the letters and digits stand these signs.
        char[] signs = {'/', ':', '@', '[', '`', '{'};
        for (char sign : signs) {
            c.cityFault("gale " + sign + ";", 1, 5);
            c.cityFault("gale 1" + sign + ";", 1, 6);
            c.cityFault("gale" + sign + "1;", 1, 4);
        }
        c.cityFault("says xost;", 1, 5);
        c.cityFault("says xin(1,2);", 1, 5);
        c.cityFault("parts p air 1;", 1, 0);
        c.cityFault("part p airs 1;", 1, 7);
        c.cityFault("part p ai 1;", 1, 7);
        c.cityFault("part p 123;", 1, 7);
        c.cityFault("123456;", 1, 0);
        c.cityFault("gale 5 123456;", 1, 7);
        c.cityFault("says abcdefgh;", 1, 5);
        c.cityFault("says air airy;", 1, 9);
        c.cityFault("says 1 + told;", 1, 9);
        c.cityFault("rival told;", 1, 6);
        c.city("turns told;", 1);
        c.cityFault("says 1 & 2;", 1, 7);
        c.cityFault("says min(1;2);", 1, 10);
        c.cityFault("says min 1,2);", 1, 9);
        c.cityFault("says (1,2);", 1, 7);
        c.cityFault("says 1));", 1, 6);
        c.cityFault("says [1];", 1, 5);
        c.cityFault("says 1 = 1;", 1, 7);
        c.cityFault("says *1;", 1, 5);
        c.cityFault("says 1+-1;", 1, 7);
        c.cityFault("says number;", 1, 5);
        c.cityFault("turns near 1;", 1, 6);
        c.cityFault("turns aunt;", 1, 6);
    }

    private static void faultNames(Check c) {
        c.term(5, "where a NAME is asked, an OWN WORD so, a 7th letter at itself");
        c.cityFault("part air air 1;", 1, 5);
        c.cityFault("part  max air 1;", 1, 6);
        c.cityFault("part abcdefg air 1;", 1, 11);
        c.cityFault("part abcdefghijklm", 1, 11);
        c.cityFault("part airairair air 1;", 1, 11);
        c.cityFault("part numbers air 1;", 1, 11);
        c.cityFault("part number air 1;", 1, 5);
        c.cityFault(P + "aunt abcdefg;", 1, 24);
        c.cityFault(P + "near p abcdefg;", 1, 26);
        c.cityFault(P + "near abcdefg p;", 1, 24);
        c.cityFault(P + "deaf not;", 1, 18);
    }

    private static void faultDigits(Check c) {
        c.term(5, "where a number is asked, a 5th digit at itself");
        c.cityFault("part p air 00001;", 1, 15);
        c.cityFault("part p air 123456;", 1, 15);
        c.cityFault("gale 00010;", 1, 9);
        c.cityFault("slip 10000;", 1, 9);
        c.cityFault("says 12345;", 1, 9);
        c.cityFault("says 1+00000;", 1, 11);
        c.cityFault("turns min(99999,1);", 1, 14);
        c.city("part p air 0020;gale 0001;slip 0100;says 9999;", 4);
    }

    private static void faultTooSoon(Check c) {
        c.term(5, "at the text's length, if it ends too soon)");
        String[] cuts = {
            "part", "part ", "part p", "part p ", "part p air", "part p air 1", "part p air 1 \n", "gale", "slip 1", "says",
            "says 1", "says 1+", "says (", "says (1", "says min", "says min(", "says min(1", "says min(1,", "says min(1,1",
            "turns told*", P + "near", P + "near p", P + "aunt", P + "aunt p", P + "deaf "
        };
        for (String cut : cuts) {
            c.cityFault(cut, 1, cut.length());
        }
        c.cityFault(" ".repeat(1595) + "gale ", 1, 1600);
    }

    private static void faultNumber(Check c) {
        c.term(5, "2 a number that can't be, at it");
        c.cityFault("part p air 21;", 2, 11);
        c.cityFault("part p air   0021;", 2, 13);
        c.cityFault("gale 0;", 2, 5);
        c.cityFault("gale 0000;", 2, 5);
        c.cityFault("gale 21", 2, 5);
        c.cityFault("slip 101", 2, 5);
        c.cityFault("slip\n9999;", 2, 5);
        c.city("says 0;rival 9999;", 2);
    }

    private static void faultThere(Check c) {
        c.term(5, "3 a NAME to be given that is there already");
        c.cityFault(P + "part p air 1;", 3, 18);
        c.cityFault(PQ + "part  q", 3, 32);
        c.cityFault("part abcdef air 1;part abcdef air 2;", 3, 23);
        c.city("part abcdef air 1;part abcdee air 2;", 2);
    }

    private static void faultNoName(Check c) {
        c.term(5, ", one that is none");
        c.cityFault(P + "aunt q;", 3, 18);
        c.cityFault(P + "deaf pp;", 3, 18);
        c.cityFault(P + "near q p;", 3, 18);
        c.cityFault(P + "near p q;", 3, 20);
        c.cityFault("aunt a", 3, 5);
    }

    private static void faultSamePart(Check c) {
        c.term(5, ", or can't be (the same PART, two told near: at the second");
        c.cityFault(PQ + "near p p;", 3, 33);
        c.cityFault(PQ + "near  q  q;", 3, 35);
        c.cityFault(PQ + "near p q;near p q;", 3, 42);
        c.cityFault(PQ + "near q p;near p q;", 3, 42);
        c.city(PQ + "part r air 3;near p q;near q r;near r p;", 6);
    }

    private static void faultToldSo(Check c) {
        c.term(5, "an aunt, a deaf one told so already), at it");
        c.cityFault(PQ + "aunt p;aunt p;", 3, 38);
        c.cityFault(PQ + "deaf p;deaf  p", 3, 39);
        c.cityFault(PQ + "aunt p;aunt q;aunt p;", 3, 45);
        c.city(PQ + "aunt p;deaf p;aunt q;", 5);
    }

    private static void faultDepth(Check c) {
        c.term(5, "4 the 7th ( that is open at once, at it");
        c.city("says ((((((1))))));", 1);
        c.cityFault("says (((((((1)))))));", 4, 11);
        c.cityFault("says ( ( ( ( ( (  (1", 4, 18);
        c.city("says ((((((1))))))+((((((2))))));", 1);
        c.city("says ((((((1)+(2)))*(3))));", 1);
        c.city("rival min(min(min(min(min(min(1,2),3),4),5),6),7);", 1);
        c.cityFault("rival min(min(min(min(min(min(min(1,2),3),4),5),6),7),8);", 4, 33);
        c.cityFault("turns max(1,(2+max(3,(4+max(5,(6+(7", 4, 33);
        c.cityFault("turns ((((((min (1,2", 4, 16);
        c.cityFault("turns ((((((1 (", 1, 14);
        c.cityFault("turns ((((((min 1", 1, 16);
    }

    private static void faultKinds(Check c) {
        c.term(5, "5 one too many of a kind (a second says, rival, turns, too)");
        c.cityFault(seven() + "part", 5, 91);
        c.cityFault(seven() + " part a air 1;", 5, 92);
        c.cityFault(seven() + pairs(12) + "\nnear a a;", 5, 91 + 109);
        c.cityFault(seven() + pairs(12) + "near", 5, 91 + 108);
        c.cityFault("says 1;says", 5, 7);
        c.cityFault("rival 1;gale 1;rival #", 5, 15);
        c.cityFault("turns 1;turns 12345", 5, 8);
        c.city("says 1;rival 1;turns 1;gale 1;gale 1;slip 1;slip 1;", 7);
    }

    private static void faultStatements(Check c) {
        c.term(5, "an 81st STATEMENT (whatever stands there), at its first byte.");
        String eighty = "gale 1;".repeat(80);
        String[] whatever = {"gale 1;", "gale", "#", ";", "x", "99999", "part p air 21;", "says (((((((1;", "aunt p;"};
        for (String text : whatever) {
            c.cityFault(eighty + text, 5, 560);
            c.cityFault(eighty + " \n" + text, 5, 562);
        }
        c.cityFault("gale 1;".repeat(79) + "#", 1, 553);
    }
}
