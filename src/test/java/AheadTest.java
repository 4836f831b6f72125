/** Promises 11 to 17: later, comes, self, say, aunts, right, rest. */
public final class AheadTest {
    private static final String UP = "part a air 0;part b air 3;says air+1;";

    public static void main(String[] args) {
        Check c = new Check("AheadTest");
        laterAir(c);
        comingGales(c);
        selfTrue(c);
        saying(c);
        keepingOff(c);
        stations(c);
        resting(c);
        lastNights(c);
        c.finish();
    }

    private static void laterAir(Check c) {
        NightForecast x = c.city(UP + "gale 5;", 4);
        c.due("later(0, 0, 0)", x.later(0, 0, 0), 0);
        c.due("later(0, 7, 0)", x.later(0, 7, 0), 7);
        c.due("later(1, 60, 0)", x.later(1, 60, 0), 20);
        c.due("later(0, 0, 1)", x.later(0, 0, 1), 0);
        c.due("later(0, 2, 1)", x.later(0, 2, 1), 1);
        c.due("later(1, 5, 1)", x.later(1, 5, 1), 2);
        x.read(0, 10);
        x.hush(1);
        c.due("later(0, 1, 0) by acts", x.later(0, 1, 0), 10);
        c.due("later(0, 2, 0) by acts", x.later(0, 2, 0), 11);
        c.due("later(1, 2, 0) by acts", x.later(1, 2, 0), 4);
        c.due("later(0, 61, 0)", x.later(0, 61, 0), -1);
        c.due("later(0, -1, 0)", x.later(0, -1, 0), -1);
        c.due("later(0, max, 0)", x.later(0, Integer.MAX_VALUE, 0), -1);
        c.due("later(0, 1, 2)", x.later(0, 1, 2), -1);
        c.due("later(0, 1, -1)", x.later(0, 1, -1), -1);
        c.due("later(2, 1, 0)", x.later(2, 1, 0), -1);
        c.due("later(2, 1, 1)", x.later(2, 1, 1), -1);
        c.due("later(-1, 1, 1)", x.later(-1, 1, 1), -1);
        c.due("has(2)", x.has(2), 0);
        c.due("has(6)", x.has(6), 3);
    }

    private static void comingGales(Check c) {
        NightForecast x = c.city(UP + "part d air 15;part e air 20;aunt e;", 5 + 1);
        c.due("comes(0)", x.comes(0), 15);
        c.due("comes(1)", x.comes(1), 12);
        c.due("comes(2)", x.comes(2), 0);
        c.due("comes(4)", x.comes(4), -1);
        c.due("comes(-1)", x.comes(-1), -1);
        x = c.city("part a air 0;turns night/3;gale 20;", 3);
        c.due("comes(0) behind 60", x.comes(0), -1);
        x.nights(1);
        c.due("comes(0) behind 60, a night later", x.comes(0), 60);
    }

    private static void selfTrue(Check c) {
        NightForecast x = c.city("part a air 4;part b air 8;near a b;turns (told+most)/2;", 4);
        c.due("self(0)", x.self(0), (1 << 7) | (1 << 8));
        c.due("self(1)", x.self(1), (1 << 3) | (1 << 4));
        x.hush(0);
        c.due("self(0) hushed", x.self(0), (1 << 7) | (1 << 8));
        x.deaf(0, 1);
        c.due("self(0) deaf", x.self(0), 1 << 6);
        c.due("tonight(0, 0) behind self", x.tonight(0, 0), -1);
        c.due("self(2)", x.self(2), -1);
        c.due("self(-1)", x.self(-1), -1);
        x = c.city("part a air 4;turns told+1;", 2);
        c.due("self(0) of told+1", x.self(0), 1 << 20);
        x = c.city("part a air 4;turns 20-told/20*20-1+told/20;", 2);
        c.due("self(0) of none", x.self(0), 1 << 19);
        x = c.city("part a air 4;turns 1-told;", 2);
        c.due("self(0) of 1-told", x.self(0), 0);
    }

    private static void saying(Check c) {
        NightForecast x = c.city("part a air 0;part b air 0;near a b;turns max(told,most);gale 10;", 5);
        c.due("say(0, 1, 0)", x.say(0, 1, 0), 0);
        c.due("say(0, 1, 1)", x.say(0, 1, 1), 0);
        x.read(1, 12);
        c.due("say(0, 1, 1) by acts", x.say(0, 1, 1), 1);
        c.due("say(0, 2, 1) by acts", x.say(0, 2, 1), 2);
        c.due("say(0, 2, 0) by acts", x.say(0, 2, 0), 0);
        c.due("say(1, 5, 0) over its act", x.say(1, 5, 0), 0);
        c.due("say(1, 5, 1) over its act", x.say(1, 5, 1), 0);
        x = c.city("part a air 3;turns 7;", 2);
        c.due("say(0, 1, 0), a true one", x.say(0, 1, 0), 7);
        x = c.city("part a air 3;turns 20-told;gale 5;", 3);
        c.due("say(0, 1, 0), fewest first", x.say(0, 1, 0), 16);
        c.due("say(0, 1, 1), fewest first", x.say(0, 1, 1), 0);
        c.due("say(0, 2, 0)", x.say(0, 2, 0), 10);
        c.due("say(0, 2, 1)", x.say(0, 2, 1), 1);
        x = c.city("part a air 0;turns 20-told;gale 1;", 3);
        c.due("say(0, 1, 0), the last number", x.say(0, 1, 0), 20);
        c.due("say(0, 1, 1), the last number", x.say(0, 1, 1), 0);
        c.due("say(0, 0, 0)", x.say(0, 0, 0), -1);
        c.due("say(0, 21, 0)", x.say(0, 21, 0), -1);
        c.due("say(0, 20, 1)", x.say(0, 20, 1) >= 0, true);
        c.due("say(0, 1, 2)", x.say(0, 1, 2), -1);
        c.due("say(0, 1, -1)", x.say(0, 1, -1), -1);
        c.due("say(1, 1, 0)", x.say(1, 1, 0), -1);
        c.due("say(-1, 1, 0)", x.say(-1, 1, 0), -1);
        c.due("has(9)", x.has(9), 0);
    }

    private static void keepingOff(Check c) {
        String star = "part m air 0;part a air 16;part b air 17;part d air 18;part e air 19;"
            + "near m a;near m b;near d m;near m e;";
        NightForecast x = c.city(star + "turns (told+most)/2+air/16*9;", 10);
        c.due("aunts(0, 1)", x.aunts(0, 1), 0);
        c.due("aunts(0, 2)", x.aunts(0, 2), 0);
        x = c.city(star + "turns max(told,most);", 10);
        c.due("aunts(0, 1) with four near", x.aunts(0, 1), -1);
        x.aunt(2, 1);
        c.due("aunts(0, 1) with three near", x.aunts(0, 1), 2 + 8 + 16);
        x.aunt(4, 1);
        c.due("aunts(0, 1) with two near", x.aunts(0, 1), 2 + 8);
        c.due("aunts(0, 30)", x.aunts(0, 30), 2 + 8);
        c.due("aunts(1, 1)", x.aunts(1, 1), -1);
        x.aunt(1, 1);
        x.aunt(3, 1);
        c.due("aunts(0, 1) with all told", x.aunts(0, 1), 0);
        c.due("aunts(0, 0)", x.aunts(0, 0), -1);
        c.due("aunts(0, 31)", x.aunts(0, 31), -1);
        c.due("aunts(5, 1)", x.aunts(5, 1), -1);
        c.due("aunts(-1, 1)", x.aunts(-1, 1), -1);
        x = c.city("part a air 16;part b air 17;part m air 14;near a m;near m b;turns most-1;gale 16;", 7);
        c.due("aunts(2, 1): of a and b", x.aunts(2, 1), 2);
        c.due("has(4)", x.has(4), 0);
        x = c.city("part a air 17;part b air 17;part m air 0;near a b;near a m;turns most;", 6);
        c.due("aunts(2, 1): itself is none", x.aunts(2, 1), 1);
        x = c.city("part a air 20;turns 3;", 2);
        c.due("aunts(0, 1): a gale now is none", x.aunts(0, 1), 0);
    }

    private static void stations(Check c) {
        NightForecast x = c.city("part a air 4;part b air 9;near a b;turns most;", 4);
        c.due("right(0, 1)", x.right(0, 1), 0);
        c.due("right(1, 1)", x.right(1, 1), 2);
        c.due("right(1, 60)", x.right(1, 60), 120);
        x.read(0, 9);
        c.due("right(0, 1) by an act", x.right(0, 1), 1);
        c.due("right(0, 2) by an act of tonight", x.right(0, 2), 1);
        x = c.city("part a air 4;", 1);
        c.due("right(0, 60)", x.right(0, 60), 60);
        x.hush(0);
        c.due("right(0, 60) hushed", x.right(0, 60), 59);
        c.due("right(1, 60) hushed", x.right(1, 60), 60);
        c.due("right(0, 61)", x.right(0, 61), -1);
        c.due("right(0, 0)", x.right(0, 0), -1);
        c.due("right(2, 1)", x.right(2, 1), -1);
        c.due("right(-1, 1)", x.right(-1, 1), -1);
    }

    private static void resting(Check c) {
        NightForecast x = c.city("part a air 4;part b air 9;says 6;", 3);
        c.due("rest(1)", x.rest(1), 1);
        x = c.city("part a air 4;part b air 9;part d air 2;deaf b;says 6;", 5);
        c.due("rest(30)", x.rest(30), 5);
        c.due("part(1, 2) stays", x.part(1, 2), 1);
        x.read(0, 3);
        c.due("rest(1) by an act", x.rest(1), 4);
        x = c.city("part a air 5;part b air 5;near a b;says 4;turns told+(most-5)*(most-5);", 5);
        c.due("rest(1)", x.rest(1), 0);
        x = c.city("part a air 5;part b air 1;part d air 9;part e air 3;part f air 0;part g air 8;part h air 2;says 4;", 8);
        c.due("rest(1) of seven", x.rest(1), 2 + 8 + 16 + 64);
        x = c.city("part a air 5;part b air 5;near a b;says 10-most;turns told+night*0;", 5);
        c.due("rest(2)", x.rest(2), 0);
        x = c.city("part a air 5;part b air 5;part d air 5;", 3);
        c.due("rest(1) of like ones", x.rest(1), 0);
        c.due("rest(0)", x.rest(0), -1);
        c.due("rest(31)", x.rest(31), -1);
        c.due("rest(-1)", x.rest(-1), -1);
    }

    private static void lastNights(Check c) {
        NightForecast x = c.city("part a air 4;says air+1;", 2);
        Check.tell(x, image(995, 4, 0, 255));
        c.due("on()", x.on(), true);
        c.due("later(0, 4, 0)", x.later(0, 4, 0), 8);
        c.due("later(0, 5, 0)", x.later(0, 5, 0), -1);
        c.due("say(0, 4, 0)", x.say(0, 4, 0), 0);
        c.due("say(0, 5, 0)", x.say(0, 5, 0), -1);
        c.due("aunts(0, 4)", x.aunts(0, 4), 0);
        c.due("aunts(0, 5)", x.aunts(0, 5), -1);
        c.due("right(0, 4)", x.right(0, 4), 4);
        c.due("right(0, 5)", x.right(0, 5), -1);
        c.due("rest(4)", x.rest(4), 1);
        c.due("rest(5)", x.rest(5), -1);
        c.due("comes(0)", x.comes(0), -1);
        Check.tell(x, image(988, 4, 0, 255));
        x.on();
        c.due("comes(0)", x.comes(0), 11);
    }

    private static int[] image(int night, int air, int flags, int act) {
        int[] bytes = {night >> 8, night & 255, air, flags, act, 0};
        int check = 137;
        for (int k = 0; k < 5; k++) {
            check = (3 * check + bytes[k]) % 251;
        }
        bytes[5] = check;
        return bytes;
    }
}
