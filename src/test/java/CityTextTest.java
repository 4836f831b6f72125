/** Promises 4 and 5: city, fault. */
public final class CityTextTest {
    private static final String P = "part p air 1;";
    private static final String PQ = "part p air 1;part q air 2;";

    public static void main(String[] args) {
        Check c = new Check("CityTextTest");
        goodTexts(c);
        textFaults(c);
        wordFaults(c);
        sumFaults(c);
        numberFaults(c);
        nameFaults(c);
        depthFaults(c);
        countFaults(c);
        allStays(c);
        startsAnew(c);
        prefixes(c);
        c.finish();
    }

    private static void goodTexts(Check c) {
        c.city("", 0);
        c.city(" \n \n", 0);
        c.city("part p air 20;", 1);
        c.city("\npart\np\nair\n0 ;\n gale 1 ; slip 100 ;", 3);
        c.city("part abcdef air 0020;", 1);
        c.city("part last air 1;part often air 2;part total air 3;", 3);
        c.city("gale 3;gale 20;slip 0;slip 7;", 4);
        c.city("says 9999*air/most-least+night;rival gales;turns told;", 3);
        c.city("says(1);rival min(1,2);turns max ( told , 3 ) ;", 3);
        c.city("says 1+(2)*(3);", 1);
        NightForecast x = c.city("gale 5;" + P + "gale 1;", 3);
        c.due("part(0, 4)", x.part(0, 4), 1);
        c.due("fault(0)", x.fault(0), 0);
        c.due("fault(1)", x.fault(1), -1);
        c.due("fault(2)", x.fault(2), -1);
        c.due("fault(-1)", x.fault(-1), -1);
    }

    private static void textFaults(Check c) {
        c.cityFault(";", 1, 0);
        c.cityFault("part p air 1", 1, 12);
        c.cityFault("part p air 1 \n", 1, 14);
        c.cityFault("part p air 1;;", 1, 13);
        c.cityFault("part", 1, 4);
        c.cityFault("part p", 1, 6);
        c.cityFault("part p air", 1, 10);
        c.cityFault("part p air ;", 1, 11);
        c.cityFault("part p air p;", 1, 11);
        c.cityFault("part p air -1;", 1, 11);
        c.cityFault("part\tp air 1;", 1, 4);
        c.cityFault("part p air 1;\r", 1, 13);
        c.cityFault("part p\u00e9 air 1;", 1, 6);
        c.cityFault("\u0000", 1, 0);
        c.cityFault("\u00ff", 1, 0);
        c.cityFault(PQ + "near p,q;", 1, 32);
        c.cityFault(PQ + "near p q q;", 1, 35);
        c.cityFault(P + "aunt p p;", 1, 20);
        c.cityFault("gale;", 1, 4);
        c.cityFault("gale 5 5;", 1, 7);
        c.cityFault("slip air;", 1, 5);
    }

    private static void wordFaults(Check c) {
        c.cityFault("par", 1, 0);
        c.cityFault("  partner p air 1;", 1, 2);
        c.cityFault("Part p air 1;", 1, 0);
        c.cityFault("5 p air 1;", 1, 0);
        c.cityFault("air 5;", 1, 0);
        c.cityFault("first all;", 1, 0);
        c.cityFault("part P air 1;", 1, 5);
        c.cityFault("part pQ air 1;", 1, 6);
        c.cityFault("part p1 air 1;", 1, 6);
        c.cityFault("part 12345 air 1;", 1, 5);
        c.cityFault("part abcdefg air 1;", 1, 11);
        c.cityFault("part partabc air 1;", 1, 11);
        c.cityFault("part numbers air 1;", 1, 11);
        c.cityFault("part p airs 1;", 1, 7);
        c.cityFault("part p aid 1;", 1, 7);
        c.cityFault("part p air5;", 1, 10);
        c.cityFault("part p air21;", 1, 10);
        c.cityFault("part p air12345;", 1, 10);
        c.cityFault("part p air 5x;", 1, 12);
        c.cityFault("gale5;", 1, 4);
        c.cityFault("says5;", 1, 4);
        String own = "part air near aunt deaf says rival turns gale slip most least night gales told number read first"
            + " or and not all min max";
        for (String word : own.split(" ")) {
            c.cityFault("part " + word + " air 1;", 1, 5);
            c.cityFault(P + "aunt " + word + ";", 1, 18);
            c.cityFault(P + "near p " + word + ";", 1, 20);
        }
        c.cityFault(P + "near abcdefg p;", 1, 24);
        c.cityFault(P + "deaf abcdefg;", 1, 24);
    }

    private static void sumFaults(Check c) {
        c.cityFault("says", 1, 4);
        c.cityFault("says ;", 1, 5);
        c.cityFault("says 1+;", 1, 7);
        c.cityFault("says 1*;", 1, 7);
        c.cityFault("says 1/", 1, 7);
        c.cityFault("says (1+);", 1, 8);
        c.cityFault("says -1;", 1, 5);
        c.cityFault("says 1 2;", 1, 7);
        c.cityFault("says 1air;", 1, 6);
        c.cityFault("says air5;", 1, 8);
        c.cityFault("says air air;", 1, 9);
        c.cityFault("says airs;", 1, 5);
        c.cityFault("says x;", 1, 5);
        c.cityFault("says 12345;", 1, 9);
        c.cityFault("says 1+123456;", 1, 11);
        c.cityFault("says (1;", 1, 7);
        c.cityFault("says (1", 1, 7);
        c.cityFault("says 1);", 1, 6);
        c.cityFault("says ();", 1, 6);
        c.cityFault("says min;", 1, 8);
        c.cityFault("says min 1;", 1, 9);
        c.cityFault("says min(1);", 1, 10);
        c.cityFault("says min(1,2,3);", 1, 12);
        c.cityFault("says max(1,);", 1, 11);
        c.cityFault("says 1,2;", 1, 6);
        c.cityFault("says [1];", 1, 5);
        c.cityFault("says 1>0;", 1, 6);
        c.cityFault("says aunt;", 1, 5);
        c.cityFault("says near 0;", 1, 5);
        c.cityFault("says told;", 1, 5);
        c.cityFault("rival 1+told;", 1, 8);
        c.cityFault("turns number;", 1, 6);
        c.cityFault("turns deaf;", 1, 6);
        c.cityFault("turns told;says told;", 1, 16);
    }

    private static void numberFaults(Check c) {
        c.cityFault("part p air 21;", 2, 11);
        c.cityFault("part p air 9999", 2, 11);
        c.cityFault("part p air 99999", 1, 15);
        c.cityFault("part p air 00001", 1, 15);
        c.cityFault("part p air 21x", 2, 11);
        c.cityFault("gale 0;", 2, 5);
        c.cityFault("gale 21;", 2, 5);
        c.cityFault("gale 10000;", 1, 9);
        c.cityFault("slip  101;", 2, 6);
        c.cityFault("slip 1000 0", 2, 5);
    }

    private static void nameFaults(Check c) {
        c.cityFault(P + "part p", 3, 18);
        c.cityFault("near p q;" + PQ, 3, 5);
        c.cityFault(P + "near p q;", 3, 20);
        c.cityFault(P + "near p p;", 3, 20);
        c.cityFault(PQ + "near p q;near p q;", 3, 42);
        c.cityFault(PQ + "near p q;near q p;", 3, 42);
        c.cityFault(PQ + "near x y;", 3, 31);
        c.cityFault("aunt p;" + P, 3, 5);
        c.cityFault(P + "aunt pp;", 3, 18);
        c.cityFault(P + "aunt p;aunt p;", 3, 25);
        c.cityFault(P + "deaf p;aunt p;deaf p", 3, 32);
        NightForecast x = c.city(PQ + "aunt p;deaf p;aunt q;deaf q;near q p;", 7);
        c.due("has(4)", x.has(4), 2);
        c.due("has(5)", x.has(5), 2);
    }

    private static void depthFaults(Check c) {
        c.city("says ((((((1))))));", 1);
        c.cityFault("says (((((((1)))))));", 4, 11);
        c.city("says ((((((1)+(2))))))*((((((3))))));", 1);
        c.city("says min(min(min(min(min(min(1,1),1),1),1),1),max(1,2));", 1);
        c.cityFault("says ((((((min(1,2", 4, 14);
        c.cityFault("says ((((((max (1,2", 4, 15);
        c.cityFault("says ((((((min 1", 1, 15);
        c.cityFault("says ((((((1(", 1, 12);
        c.cityFault("turns max(1,max(1,max(1,max(1,max(1,max(1,(2", 4, 42);
    }

    private static void countFaults(Check c) {
        StringBuilder seven = new StringBuilder();
        for (char name = 'a'; name < 'h'; name++) {
            seven.append("part ").append(name).append(" air 1;");
        }
        NightForecast x = c.city(seven.toString(), 7);
        c.due("has(0)", x.has(0), 7);
        c.cityFault(seven + "part h air 1;", 5, 91);
        c.cityFault(seven + " part", 5, 92);
        StringBuilder pairs = new StringBuilder();
        int count = 0;
        for (char one = 'a'; one < 'h' && count < 12; one++) {
            for (char other = 'a'; other < one && count < 12; other++) {
                pairs.append("near ").append(one).append(' ').append(other).append(';');
                count++;
            }
        }
        x = c.city(seven.toString() + pairs, 19);
        c.due("has(1)", x.has(1), 12);
        c.cityFault(seven.toString() + pairs + "near a a;", 5, 91 + 108);
        c.cityFault("says 1;says", 5, 7);
        c.cityFault("rival 1;says 1;rival 2;", 5, 15);
        c.cityFault("turns 1;turns 2;", 5, 8);
        StringBuilder eighty = new StringBuilder();
        for (int k = 0; k < 80; k++) {
            eighty.append("slip 1;");
        }
        c.city(eighty.toString(), 80);
        c.city(eighty + " \n", 80);
        x = c.city(P + eighty.substring(7), 80);
        c.due("tonight(0, 0) without says", x.tonight(0, 0), 1);
        c.due("tonight(0, 3) without turns", x.tonight(0, 3), 1);
        c.cityFault(eighty + " slip 1;", 5, 561);
        c.cityFault(eighty + "#", 5, 560);
        c.cityFault(eighty + ";", 5, 560);
        c.cityFault(eighty + "12345", 5, 560);
    }

    private static void allStays(Check c) {
        NightForecast x = c.city(PQ + "near p q;gale 2;", 4);
        x.read(0, 20);
        x.nights(1);
        x.read(1, 7);
        Check.tell(x, 0, 0, 20);
        x.see();
        Check.tell(x, "part z air 9;says 3;x");
        c.due("city()", x.city(), -1);
        c.due("fault(0)", x.fault(0), 1);
        c.due("fault(1)", x.fault(1), 20);
        int[] stay = {2, 1, 1, 2, 0, 0, 22, 1, 1, 3};
        for (int what = 0; what < stay.length; what++) {
            c.due("has(" + what + ")", x.has(what), stay[what]);
        }
        c.due("tonight(0, 0)", x.tonight(0, 0), 20);
        c.due("tonight(1, 0)", x.tonight(1, 0), 7);
        c.due("letter(0, 0)", x.letter(0, 0), 16);
        c.due("end(1)", x.end(1), false);
    }

    private static void startsAnew(Check c) {
        NightForecast x = c.city(PQ + "near p q;aunt p;deaf q;gale 2;slip 100;says 20;", 8);
        x.nights(2);
        x.hush(0);
        Check.tell(x, 1, 1, 2);
        x.see();
        Check.tell(x, "part r air 9;");
        c.due("city()", x.city(), 1);
        int[] first = {1, 0, 0, 0, 0, 0, 9, 0, 0, 0};
        for (int what = 0; what < first.length; what++) {
            c.due("has(" + what + ")", x.has(what), first[what]);
        }
        c.due("tonight(0, 0)", x.tonight(0, 0), 9);
        c.due("undo()", x.undo(), false);
        c.due("chance(9)", x.chance(9), 0);
        c.due("letter(0, 0)", x.letter(0, 0), 18);
        Check.tell(x, "");
        c.due("city() of nothing", x.city(), 0);
        c.due("has(0)", x.has(0), 0);
    }

    /** A good text that is cut off is at fault at its length, or where its last word begins. */
    private static void prefixes(Check c) {
        String text = "part ab air 12;part c air 3; near ab c;\naunt c;deaf ab;says min(air+2,(most-1)*3)/2;"
            + "rival least;turns told+night-gales;gale 12;slip 50;";
        for (int length = 0; length < text.length(); length++) {
            String cut = text.substring(0, length);
            int from = length;
            while (from > 0 && Character.isLetter(text.charAt(from - 1))) {
                from--;
            }
            String head = cut.stripTrailing();
            if (head.isEmpty() || head.endsWith(";")) {
                c.city(cut);
                continue;
            }
            boolean inWord = from < length && Character.isLetter(text.charAt(length));
            NightForecast x = new NightForecast();
            Check.tell(x, cut);
            c.due("city() of " + cut, x.city(), -1);
            boolean named = cut.endsWith("part a");
            boolean unknown = cut.endsWith("near a") || cut.endsWith("deaf a");
            c.due("fault(0) of " + cut, x.fault(0), unknown ? 3 : 1);
            c.due("fault(1) of " + cut, x.fault(1), inWord && !named ? from : length);
        }
    }
}
