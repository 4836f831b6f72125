import java.util.Arrays;

/** Shipping forecast for the bedroom: the calls of DOC.md, within the rules of LANGUAGE.md. */
public final class NightForecast {
    public static final int NONE = -1;
    public static final long NOTHING = -1000000000000000L;

    private static final int TAPE_LIMIT = 1600;
    private static final int PARTS_LIMIT = 7;
    private static final int PAIRS_LIMIT = 12;
    private static final int STATEMENTS_LIMIT = 80;
    private static final int OPEN_LIMIT = 6;
    private static final int NAME_LIMIT = 6;
    private static final int DIGITS_LIMIT = 4;
    private static final int AIR_LIMIT = 20;
    private static final int AIR_COUNT = AIR_LIMIT + 1;
    private static final int NIGHT_LIMIT = 999;
    private static final int VALUE_LIMIT = 1000000;
    private static final int KEPT_LIMIT = 40;
    private static final int UNDO_LIMIT = 20;
    private static final int SEEN_LIMIT = 16;
    private static final int AUNTS_LIMIT = 3;
    private static final int ACT_NIGHTS = 100;

    // How many NIGHTS the calls of Terms III look AHEAD.
    private static final int LATER_NIGHTS = 60;
    private static final int SAY_NIGHTS = 20;
    private static final int STUDY_NIGHTS = 30;

    // What ACTS tell for tonight is held as an image writes it; a number READ stands for itself.
    private static final int HUSHED = 254;
    private static final int NO_ACT = 255;

    private static final int IMAGE_LIMIT = 3 + 3 * PARTS_LIMIT;
    private static final int CHECK_START = 137;
    private static final int CHECK_MODULUS = 251;

    private static final int DEFAULT_GALE = 15;
    private static final int DEFAULT_SLIP = 0;
    private static final int SLIP_DRAW = 100;

    private static final int FAULT_TEXT = 1;
    private static final int FAULT_NUMBER = 2;
    private static final int FAULT_NAME = 3;
    private static final int FAULT_DEPTH = 4;
    private static final int FAULT_COUNT = 5;

    private static final int REFUSED_TAPE = 0;
    private static final int REFUSED_TEXT = 1;
    private static final int REFUSED_ACT = 2;
    private static final int REFUSED_NIGHTS = 3;
    private static final int REFUSED_UNDO = 4;
    private static final int REFUSED_STATE = 5;
    private static final int REFUSED_KINDS = 6;

    // Each word has a field of six signs; its number is the field's. The OWN WORDS come first.
    private static final String WORDS =
        "part  air   near  aunt  deaf  says  rival turns gale  slip  most  least night gales told  numberread  first or    and   not   all   min   max   last  often total ";
    private static final int WORD_WIDTH = 6;
    private static final int WORD_COUNT = 27;
    private static final int OWN_WORD_COUNT = 24;
    private static final int WORD_PART = 0;
    private static final int WORD_AIR = 1;
    private static final int WORD_NEAR = 2;
    private static final int WORD_AUNT = 3;
    private static final int WORD_DEAF = 4;
    private static final int WORD_SAYS = 5;
    private static final int WORD_RIVAL = 6;
    private static final int WORD_TURNS = 7;
    private static final int WORD_GALE = 8;
    private static final int WORD_SLIP = 9;
    private static final int WORD_MOST = 10;
    private static final int WORD_LEAST = 11;
    private static final int WORD_NIGHT = 12;
    private static final int WORD_GALES = 13;
    private static final int WORD_TOLD = 14;
    private static final int WORD_NUMBER = 15;
    private static final int WORD_FIRST = 17;
    private static final int WORD_OR = 18;
    private static final int WORD_AND = 19;
    private static final int WORD_NOT = 20;
    private static final int WORD_ALL = 21;
    private static final int WORD_MIN = 22;
    private static final int WORD_MAX = 23;
    private static final int WORD_LAST = 24;
    private static final int WORD_OFTEN = 25;
    private static final int WORD_TOTAL = 26;

    private static final int TOKEN_END = 0;
    private static final int TOKEN_WORD = 1;
    private static final int TOKEN_NUMBER = 2;
    private static final int TOKEN_SIGN = 3;
    private static final int TOKEN_BLANK = 4;
    // A word or a number that stands right behind another one, where a blank is due.
    private static final int TOKEN_GLUED = 5;

    // The sums of a city, and a question, are programs for a stack; a later one may ask for more.
    private static final int RULE_SAYS = 0;
    private static final int RULE_RIVAL = 1;
    private static final int RULE_TURNS = 2;
    private static final int RULE_QUESTION = 3;
    private static final int RULE_COUNT = 4;

    // Steps of such a program: up to LAST_VALUE they put a value, up to LAST_SINGLE they change the
    // topmost one, up to LAST_SUM they join the two topmost ones, beyond they compare these (0, 1).
    private static final int STEP_CONSTANT = 0;
    private static final int STEP_AIR = 1;
    private static final int STEP_MOST = 2;
    private static final int STEP_LEAST = 3;
    private static final int STEP_NIGHT = 4;
    private static final int STEP_GALES = 5;
    private static final int STEP_TOLD = 6;
    private static final int STEP_NUMBER = 7;
    private static final int STEP_AUNT = 8;
    private static final int STEP_DEAF = 9;
    private static final int LAST_VALUE = STEP_DEAF;
    private static final int STEP_NEAR = 10;
    private static final int STEP_NOT = 11;
    private static final int LAST_SINGLE = STEP_NOT;
    private static final int STEP_ADD = 12;
    private static final int STEP_SUBTRACT = 13;
    private static final int STEP_MULTIPLY = 14;
    private static final int STEP_DIVIDE = 15;
    private static final int STEP_MIN = 16;
    private static final int STEP_MAX = 17;
    private static final int LAST_SUM = STEP_MAX;
    private static final int STEP_BELOW = 18;
    private static final int STEP_ABOVE = 19;
    private static final int STEP_EQUAL = 20;
    private static final int STEP_AND = 21;
    private static final int STEP_OR = 22;
    private static final int STEP_BITS = 5;
    private static final int STEP_MASK = 31;

    // Seven levels (six open signs) hold six values each at most: or, and, sign, sum, product, min.
    private static final int STACK_SIZE = 64;

    private final Tape tape = new Tape();
    private final City town = new City();
    private final City draft = new City();
    private final Parser parser = new Parser(tape, draft);
    private final Weather weather = new Weather(town);
    private final Sky now = new Sky();
    private final Seen seen = new Seen();
    private final Outlook outlook = new Outlook(town, weather, now, seen);
    private final Kept gusts = new Kept();
    private final History past = new History();
    private final int[] picture = new int[IMAGE_LIMIT];
    private final int[] refused = new int[REFUSED_KINDS];
    private int pictureLength = 0;
    private int chanceState = 1;

    public NightForecast() {
    }

    public int feed(int a, int b, int c, int d, int e) {
        if (tape.length + 20 > TAPE_LIMIT) {
            return refuse(REFUSED_TAPE);
        }
        tape.put(a);
        tape.put(b);
        tape.put(c);
        tape.put(d);
        tape.put(e);
        return tape.length;
    }

    public boolean end(int n) {
        if (n < 0 || n > tape.length) {
            return deny(REFUSED_TAPE);
        }
        tape.length = n;
        return true;
    }

    public int city() {
        int statements = parser.parseCity();
        tape.length = 0;
        if (statements == NONE) {
            return refuse(REFUSED_TEXT);
        }
        town.copyOf(draft);
        now.startIn(town);
        gusts.count = 0;
        seen.count = 0;
        past.count = 0;
        return statements;
    }

    public int fault(int what) {
        if (what == 0) {
            return parser.fault;
        }
        return what == 1 ? parser.place : NONE;
    }

    public int has(int what) {
        switch (what) {
            case 0:
                return town.parts;
            case 1:
                return town.pairs;
            case 2:
                return now.night;
            case 3:
                return weather.countGales(now);
            case 4:
                return Integer.bitCount(now.aunts);
            case 5:
                return Integer.bitCount(now.deaf);
            case 6:
                return now.wholeAir(town.parts);
            case 7:
                return gusts.count;
            case 8:
                return seen.count;
            case 9:
                return past.count;
            default:
                return NONE;
        }
    }

    public int letter(int part, int k) {
        if (!town.holds(part) || k < 0 || k >= NAME_LIMIT) {
            return NONE;
        }
        return (town.names[part] >> (5 * k)) & 31;
    }

    public int part(int part, int what) {
        if (!town.holds(part)) {
            return NONE;
        }
        switch (what) {
            case 0:
                return now.air[part];
            case 1:
                return (now.aunts >> part) & 1;
            case 2:
                return (now.deaf >> part) & 1;
            case 3:
                return town.near[part];
            case 4:
                return now.air[part] >= town.gale ? 1 : 0;
            default:
                return NONE;
        }
    }

    public int tonight(int part, int what) {
        if (!town.holds(part)) {
            return NONE;
        }
        weather.foresee(now);
        switch (what) {
            case 0:
                return weather.read[part];
            case 1:
                return weather.rivalFor(part, now);
            case 2:
                return weather.told[part];
            case 3:
                return weather.next[part];
            default:
                return NONE;
        }
    }

    public int kept(int k, int what) {
        return gusts.row(k, what);
    }

    // ---- ahead

    public int later(int part, int n, int what) {
        if (!town.holds(part) || n < 0 || n > LATER_NIGHTS || now.night + n > NIGHT_LIMIT) {
            return NONE;
        }
        Sky then = outlook.skyBehind(n);
        if (what == 0) {
            return then.air[part];
        }
        return what == 1 ? weather.countGales(then) : NONE;
    }

    public int comes(int part) {
        return town.holds(part) ? outlook.firstGale(part) : NONE;
    }

    // ---- what is read

    public int self(int part) {
        return town.holds(part) ? outlook.trueNumbers(part) : NONE;
    }

    public int say(int part, int n, int what) {
        if (!town.holds(part) || !outlook.canCome(n, SAY_NIGHTS) || what < 0 || what > 1) {
            return NONE;
        }
        outlook.findSaying(part, n);
        return what == 0 ? outlook.found : outlook.foundCount;
    }

    public int aunts(int part, int n) {
        if (!town.holds(part) || !outlook.canCome(n, STUDY_NIGHTS)) {
            return NONE;
        }
        return outlook.fewestAunts(part, n);
    }

    public int right(int station, int n) {
        if (station < 0 || station > 1 || !outlook.canCome(n, LATER_NIGHTS)) {
            return NONE;
        }
        return outlook.timesRight(station == 0, n);
    }

    public int rest(int n) {
        return outlook.canCome(n, STUDY_NIGHTS) ? outlook.deafAtRest(n) : NONE;
    }

    // ---- how it was

    public int see() {
        boolean fine = seen.isToldBy(tape, town.parts);
        if (fine) {
            seen.take(tape);
        }
        tape.length = 0;
        return fine ? seen.count : refuse(REFUSED_TEXT);
    }

    public int fits(int part) {
        return town.holds(part) ? outlook.fittingNumbers(part) : NONE;
    }

    public int tells(int part, int what) {
        if (!town.holds(part) || what < 0 || what > 1) {
            return NONE;
        }
        outlook.findTelling(part, outlook.fittingNumbers(part));
        return what == 0 ? outlook.found : outlook.foundCount;
    }

    // ---- acts

    public boolean read(int part, int number) {
        if (number < 0 || number > AIR_LIMIT) {
            return deny(REFUSED_ACT);
        }
        return actTonight(part, number);
    }

    public boolean hush(int part) {
        return actTonight(part, HUSHED);
    }

    public boolean aunt(int part, int on) {
        if (!wouldChange(part, on, now.aunts)) {
            return deny(REFUSED_ACT);
        }
        past.remember(now, gusts);
        now.aunts ^= 1 << part;
        return true;
    }

    public boolean deaf(int part, int on) {
        if (!wouldChange(part, on, now.deaf)) {
            return deny(REFUSED_ACT);
        }
        past.remember(now, gusts);
        now.deaf ^= 1 << part;
        return true;
    }

    public int nights(int n) {
        if (!outlook.canCome(n, ACT_NIGHTS)) {
            return refuse(REFUSED_NIGHTS);
        }
        past.remember(now, gusts);
        int rose = 0;
        for (int k = 0; k < n; k++) {
            rose += passNight();
        }
        return rose;
    }

    public int chance(int n) {
        if (!outlook.canCome(n, ACT_NIGHTS)) {
            return refuse(REFUSED_NIGHTS);
        }
        past.remember(now, gusts);
        int slips = 0;
        for (int k = 0; k < n; k++) {
            if (slipsTonight()) {
                slips++;
            }
            passNight();
        }
        return slips;
    }

    public boolean undo() {
        return past.goBack(now, gusts) || deny(REFUSED_UNDO);
    }

    public boolean seed(int seed) {
        if (seed < 0) {
            return deny(REFUSED_STATE);
        }
        chanceState = seed;
        return true;
    }

    // ---- questions

    public long ask() {
        boolean fine = parser.parseQuestion();
        tape.length = 0;
        if (!fine) {
            return NOTHING;
        }
        weather.foresee(now);
        return parser.asksTest() ? answerTest() : answerSum();
    }

    // ---- images, refusals

    public int image() {
        picture[0] = now.night >> 8;
        picture[1] = now.night & 255;
        int at = 2;
        for (int p = 0; p < town.parts; p++) {
            picture[at] = now.air[p];
            picture[at + 1] = ((now.aunts >> p) & 1) + 2 * ((now.deaf >> p) & 1);
            picture[at + 2] = now.acts[p];
            at += 3;
        }
        picture[at] = checkOf(picture, at);
        pictureLength = at + 1;
        return pictureLength;
    }

    public int octet(int k) {
        return k >= 0 && k < pictureLength ? picture[k] : NONE;
    }

    public boolean on() {
        boolean fine = tapeIsImage();
        if (fine) {
            takeImage();
        }
        tape.length = 0;
        return fine || deny(REFUSED_STATE);
    }

    public int status(int what) {
        return what >= 0 && what < REFUSED_KINDS ? refused[what] : NONE;
    }

    private int refuse(int kind) {
        refused[kind]++;
        return NONE;
    }

    private boolean deny(int kind) {
        refused[kind]++;
        return false;
    }

    private boolean actTonight(int part, int act) {
        if (!town.holds(part) || now.acts[part] == act) {
            return deny(REFUSED_ACT);
        }
        past.remember(now, gusts);
        now.acts[part] = act;
        return true;
    }

    private boolean wouldChange(int part, int on, int bits) {
        return town.holds(part) && (on == 0 || on == 1) && ((bits >> part) & 1) != on;
    }

    private int passNight() {
        weather.foresee(now);
        for (int p = 0; p < town.parts; p++) {
            if (weather.galeRises(p, now)) {
                gusts.add(now.night, p, weather.next[p]);
            }
        }
        return weather.pass(now);
    }

    private boolean slipsTonight() {
        if (draw(SLIP_DRAW) >= town.slip || town.parts == 0) {
            return false;
        }
        int part = draw(town.parts);
        now.acts[part] = draw(AIR_COUNT);
        return true;
    }

    private int draw(int m) {
        chanceState = (int) ((1103515245L * chanceState + 12345L) & 0x7fffffffL);
        return m > 0 ? (chanceState / 64) % m : 0;
    }

    private long answerTest() {
        int first = NONE;
        int last = NONE;
        int often = 0;
        for (int p = 0; p < town.parts; p++) {
            if (weather.valueOf(draft.rules, RULE_QUESTION, p, now) != 0) {
                first = first == NONE ? p : first;
                last = p;
                often++;
            }
        }
        if (parser.asked == WORD_FIRST) {
            return first;
        }
        return parser.asked == WORD_LAST ? last : often;
    }

    private long answerSum() {
        long total = 0;
        int most = 0;
        int least = 0;
        for (int p = 0; p < town.parts; p++) {
            int value = weather.valueOf(draft.rules, RULE_QUESTION, p, now);
            total += value;
            most = p == 0 ? value : Math.max(most, value);
            least = p == 0 ? value : Math.min(least, value);
        }
        if (parser.asked == WORD_TOTAL) {
            return total;
        }
        return parser.asked == WORD_MOST ? most : least;
    }

    private boolean tapeIsImage() {
        int last = 2 + 3 * town.parts;
        if (tape.length != last + 1 || tape.bytes[last] != checkOf(tape.bytes, last)) {
            return false;
        }
        for (int at = 2; at < last; at += 3) {
            int act = tape.bytes[at + 2];
            if (tape.bytes[at] > AIR_LIMIT || tape.bytes[at + 1] > 3) {
                return false;
            }
            if (act > AIR_LIMIT && act != HUSHED && act != NO_ACT) {
                return false;
            }
        }
        return tape.bytes[0] * 256 + tape.bytes[1] <= NIGHT_LIMIT;
    }

    private void takeImage() {
        now.night = tape.bytes[0] * 256 + tape.bytes[1];
        now.aunts = 0;
        now.deaf = 0;
        for (int p = 0; p < town.parts; p++) {
            int at = 2 + 3 * p;
            now.air[p] = tape.bytes[at];
            now.aunts |= (tape.bytes[at + 1] & 1) << p;
            now.deaf |= (tape.bytes[at + 1] >> 1) << p;
            now.acts[p] = tape.bytes[at + 2];
        }
        gusts.count = 0;
        past.count = 0;
    }

    private static int checkOf(int[] bytes, int length) {
        int check = CHECK_START;
        for (int k = 0; k < length && k < bytes.length; k++) {
            check = (3 * check + bytes[k]) % CHECK_MODULUS;
        }
        return check;
    }

    private static int airOf(int value) {
        return Math.max(0, Math.min(AIR_LIMIT, value));
    }

    private static final class Tape {
        final int[] bytes = new int[TAPE_LIMIT];
        int length = 0;

        void put(int number) {
            for (int shift = 24; shift >= 0; shift -= 8) {
                if (length < bytes.length) {
                    bytes[length] = (number >>> shift) & 255;
                    length++;
                }
            }
        }
    }

    /** Programs in one row, since all sums of a city come from one text. */
    private static final class Rules {
        // No step comes without a byte of the text, but for the three sums that a text may leave out.
        private final int[] steps = new int[TAPE_LIMIT + 3];
        private final int[] from = new int[RULE_COUNT];
        private final int[] to = new int[RULE_COUNT];
        private int length = 0;

        void clear() {
            length = 0;
            Arrays.fill(from, 0);
            Arrays.fill(to, 0);
        }

        void open(int rule) {
            from[rule] = length;
        }

        void close(int rule) {
            to[rule] = length;
        }

        boolean isTold(int rule) {
            return to[rule] > from[rule];
        }

        void add(int step, int value) {
            if (length < steps.length) {
                steps[length] = (value << STEP_BITS) | step;
                length++;
            }
        }

        void addUnlessTold(int rule, int step) {
            if (!isTold(rule)) {
                open(rule);
                add(step, 0);
                close(rule);
            }
        }

        void copyOf(Rules other) {
            length = other.length;
            System.arraycopy(other.steps, 0, steps, 0, other.length);
            System.arraycopy(other.from, 0, from, 0, RULE_COUNT);
            System.arraycopy(other.to, 0, to, 0, RULE_COUNT);
        }
    }

    /** What a text tells; a name is its letters, 1 to 26, five bits each, the first one lowest. */
    private static final class City {
        final int[] names = new int[PARTS_LIMIT];
        final int[] firstAir = new int[PARTS_LIMIT];
        final int[] near = new int[PARTS_LIMIT];
        final Rules rules = new Rules();
        int parts = 0;
        int pairs = 0;
        int aunts = 0;
        int deaf = 0;
        int gale = DEFAULT_GALE;
        int slip = DEFAULT_SLIP;

        City() {
            finish();
        }

        void clear() {
            Arrays.fill(near, 0);
            rules.clear();
            parts = 0;
            pairs = 0;
            aunts = 0;
            deaf = 0;
            gale = DEFAULT_GALE;
            slip = DEFAULT_SLIP;
        }

        void finish() {
            rules.addUnlessTold(RULE_SAYS, STEP_AIR);
            rules.addUnlessTold(RULE_RIVAL, STEP_MOST);
            rules.addUnlessTold(RULE_TURNS, STEP_TOLD);
        }

        boolean holds(int part) {
            return part >= 0 && part < parts;
        }

        int find(int name) {
            for (int p = 0; p < parts; p++) {
                if (names[p] == name) {
                    return p;
                }
            }
            return NONE;
        }

        void addPart(int name, int air) {
            if (parts < PARTS_LIMIT) {
                names[parts] = name;
                firstAir[parts] = air;
                parts++;
            }
        }

        void addPair(int one, int other) {
            if (holds(one) && holds(other)) {
                near[one] |= 1 << other;
                near[other] |= 1 << one;
                pairs++;
            }
        }

        void copyOf(City other) {
            System.arraycopy(other.names, 0, names, 0, PARTS_LIMIT);
            System.arraycopy(other.firstAir, 0, firstAir, 0, PARTS_LIMIT);
            System.arraycopy(other.near, 0, near, 0, PARTS_LIMIT);
            rules.copyOf(other.rules);
            parts = other.parts;
            pairs = other.pairs;
            aunts = other.aunts;
            deaf = other.deaf;
            gale = other.gale;
            slip = other.slip;
        }
    }

    /** Cuts the tape into words, numbers and signs. */
    private static final class Tokens {
        private final Tape tape;
        int kind = TOKEN_END;
        int start = 0;
        int end = 0;
        int word = NONE;
        int number = 0;

        Tokens(Tape tape) {
            this.tape = tape;
        }

        void restart() {
            kind = TOKEN_END;
            end = 0;
            next();
        }

        void next() {
            boolean solid = isSolid();
            int before = end;
            start = before;
            while (start < tape.length && kindOf(tape.bytes[start]) == TOKEN_BLANK) {
                start++;
            }
            kind = start < tape.length ? kindOf(tape.bytes[start]) : TOKEN_END;
            end = Math.min(start + 1, tape.length);
            while (isSolid() && end < tape.length && kindOf(tape.bytes[end]) == kind) {
                end++;
            }
            if (kind == TOKEN_WORD) {
                word = findWord();
            } else if (kind == TOKEN_NUMBER) {
                number = findNumber();
            }
            if (solid && isSolid() && start == before) {
                kind = TOKEN_GLUED;
            }
        }

        int length() {
            return end - start;
        }

        boolean isWord(int wanted) {
            return kind == TOKEN_WORD && word == wanted;
        }

        boolean isSign(char sign) {
            return kind == TOKEN_SIGN && tape.bytes[start] == sign;
        }

        int asName() {
            int name = 0;
            for (int k = 0; k < NAME_LIMIT && start + k < end; k++) {
                name |= (tape.bytes[start + k] - 'a' + 1) << (5 * k);
            }
            return name;
        }

        private boolean isSolid() {
            return kind == TOKEN_WORD || kind == TOKEN_NUMBER;
        }

        private int findWord() {
            int letters = end - start;
            for (int w = 0; w < WORD_COUNT && letters <= WORD_WIDTH; w++) {
                int field = w * WORD_WIDTH;
                int alike = 0;
                while (alike < letters && WORDS.charAt(field + alike) == tape.bytes[start + alike]) {
                    alike++;
                }
                if (alike == WORD_WIDTH || (alike == letters && WORDS.charAt(field + alike) == ' ')) {
                    return w;
                }
            }
            return NONE;
        }

        // Digits behind the fourth are a fault wherever they stand, so their value is not needed.
        private int findNumber() {
            int value = 0;
            for (int at = start; at < end && at < start + DIGITS_LIMIT; at++) {
                value = 10 * value + tape.bytes[at] - '0';
            }
            return value;
        }

        private static int kindOf(int sign) {
            if (sign == 10 || sign == 32) {
                return TOKEN_BLANK;
            }
            if (sign >= 'a' && sign <= 'z') {
                return TOKEN_WORD;
            }
            return sign >= '0' && sign <= '9' ? TOKEN_NUMBER : TOKEN_SIGN;
        }
    }

    /** Reads a city or a question from the tape into a draft; it stops at the first fault. */
    private static final class Parser {
        private final Tokens tokens;
        private final City draft;
        int fault = 0;
        int place = NONE;
        int asked = NONE;
        private int scope = RULE_SAYS;

        Parser(Tape tape, City draft) {
            this.tokens = new Tokens(tape);
            this.draft = draft;
        }

        int parseCity() {
            restart();
            draft.clear();
            for (int n = 0; n < STATEMENTS_LIMIT; n++) {
                if (tokens.kind == TOKEN_END) {
                    draft.finish();
                    return n;
                }
                if (!statement() || !takeSign(';')) {
                    return NONE;
                }
            }
            if (tokens.kind != TOKEN_END) {
                fail(FAULT_COUNT, tokens.start);
                return NONE;
            }
            draft.finish();
            return STATEMENTS_LIMIT;
        }

        boolean parseQuestion() {
            restart();
            asked = tokens.kind == TOKEN_WORD ? tokens.word : NONE;
            if (!asksTest() && !asksSum()) {
                return fail(FAULT_TEXT, tokens.start);
            }
            tokens.next();
            draft.rules.clear();
            scope = RULE_QUESTION;
            draft.rules.open(RULE_QUESTION);
            if (!(asksTest() ? test(0) : sum(0))) {
                return false;
            }
            draft.rules.close(RULE_QUESTION);
            return tokens.kind == TOKEN_END || fail(FAULT_TEXT, tokens.start);
        }

        boolean asksTest() {
            return asked == WORD_FIRST || asked == WORD_LAST || asked == WORD_OFTEN;
        }

        private boolean asksSum() {
            return asked == WORD_TOTAL || asked == WORD_MOST || asked == WORD_LEAST;
        }

        private void restart() {
            fault = 0;
            place = NONE;
            tokens.restart();
        }

        private boolean fail(int kind, int at) {
            fault = kind;
            place = at;
            return false;
        }

        private boolean statement() {
            switch (tokens.kind == TOKEN_WORD ? tokens.word : NONE) {
                case WORD_PART:
                    return partStatement();
                case WORD_NEAR:
                    return nearStatement();
                case WORD_AUNT:
                    return auntStatement();
                case WORD_DEAF:
                    return deafStatement();
                case WORD_SAYS:
                    return openRule(RULE_SAYS) && sum(0) && closeRule();
                case WORD_RIVAL:
                    return openRule(RULE_RIVAL) && sum(0) && closeRule();
                case WORD_TURNS:
                    return openRule(RULE_TURNS) && sum(0) && closeRule();
                case WORD_GALE:
                    return galeStatement();
                case WORD_SLIP:
                    return slipStatement();
                default:
                    return fail(FAULT_TEXT, tokens.start);
            }
        }

        private boolean partStatement() {
            if (draft.parts >= PARTS_LIMIT) {
                return fail(FAULT_COUNT, tokens.start);
            }
            tokens.next();
            int name = nameHere();
            if (name == 0) {
                return false;
            }
            if (draft.find(name) != NONE) {
                return fail(FAULT_NAME, tokens.start);
            }
            tokens.next();
            if (!takeWord(WORD_AIR) || !checkNumber(0, AIR_LIMIT)) {
                return false;
            }
            draft.addPart(name, tokens.number);
            tokens.next();
            return true;
        }

        private boolean nearStatement() {
            if (draft.pairs >= PAIRS_LIMIT) {
                return fail(FAULT_COUNT, tokens.start);
            }
            tokens.next();
            int one = partHere(0);
            if (one == NONE) {
                return false;
            }
            tokens.next();
            int other = partHere(draft.near[one] | 1 << one);
            if (other == NONE) {
                return false;
            }
            draft.addPair(one, other);
            tokens.next();
            return true;
        }

        private boolean auntStatement() {
            tokens.next();
            int part = partHere(draft.aunts);
            if (part == NONE) {
                return false;
            }
            draft.aunts |= 1 << part;
            tokens.next();
            return true;
        }

        private boolean deafStatement() {
            tokens.next();
            int part = partHere(draft.deaf);
            if (part == NONE) {
                return false;
            }
            draft.deaf |= 1 << part;
            tokens.next();
            return true;
        }

        private boolean openRule(int rule) {
            if (draft.rules.isTold(rule)) {
                return fail(FAULT_COUNT, tokens.start);
            }
            tokens.next();
            scope = rule;
            draft.rules.open(rule);
            return true;
        }

        private boolean closeRule() {
            draft.rules.close(scope);
            return true;
        }

        private boolean galeStatement() {
            tokens.next();
            if (!checkNumber(1, AIR_LIMIT)) {
                return false;
            }
            draft.gale = tokens.number;
            tokens.next();
            return true;
        }

        private boolean slipStatement() {
            tokens.next();
            if (!checkNumber(0, SLIP_DRAW)) {
                return false;
            }
            draft.slip = tokens.number;
            tokens.next();
            return true;
        }

        /** The PART named here; NONE, with a fault, when it is none, or one of those barred. */
        private int partHere(int barred) {
            int name = nameHere();
            if (name == 0) {
                return NONE;
            }
            int part = draft.find(name);
            if (part == NONE || ((barred >> part) & 1) == 1) {
                fail(FAULT_NAME, tokens.start);
                return NONE;
            }
            return part;
        }

        /** The letters of the NAME here; 0, with a fault, when none stands here. */
        private int nameHere() {
            boolean own = tokens.word >= 0 && tokens.word < OWN_WORD_COUNT;
            if (tokens.kind != TOKEN_WORD || own) {
                fail(FAULT_TEXT, tokens.start);
                return 0;
            }
            if (tokens.length() > NAME_LIMIT) {
                fail(FAULT_TEXT, tokens.start + NAME_LIMIT);
                return 0;
            }
            return tokens.asName();
        }

        private boolean takeWord(int word) {
            if (!tokens.isWord(word)) {
                return fail(FAULT_TEXT, tokens.start);
            }
            tokens.next();
            return true;
        }

        private boolean takeSign(char sign) {
            if (!tokens.isSign(sign)) {
                return fail(FAULT_TEXT, tokens.start);
            }
            tokens.next();
            return true;
        }

        private boolean checkNumber(int least, int most) {
            if (tokens.kind != TOKEN_NUMBER) {
                return fail(FAULT_TEXT, tokens.start);
            }
            if (tokens.length() > DIGITS_LIMIT) {
                return fail(FAULT_TEXT, tokens.start + DIGITS_LIMIT);
            }
            if (tokens.number < least || tokens.number > most) {
                return fail(FAULT_NUMBER, tokens.start);
            }
            return true;
        }

        private boolean test(int open) {
            if (!both(open)) {
                return false;
            }
            for (int k = 0; k < TAPE_LIMIT && tokens.isWord(WORD_OR); k++) {
                tokens.next();
                if (!both(open)) {
                    return false;
                }
                draft.rules.add(STEP_OR, 0);
            }
            return true;
        }

        private boolean both(int open) {
            if (!fact(open)) {
                return false;
            }
            for (int k = 0; k < TAPE_LIMIT && tokens.isWord(WORD_AND); k++) {
                tokens.next();
                if (!fact(open)) {
                    return false;
                }
                draft.rules.add(STEP_AND, 0);
            }
            return true;
        }

        private boolean fact(int open) {
            if (tokens.isWord(WORD_NOT)) {
                if (!takeOpening(open) || !fact(open + 1)) {
                    return false;
                }
                draft.rules.add(STEP_NOT, 0);
                return true;
            }
            if (tokens.isSign('[')) {
                return takeOpening(open) && test(open + 1) && takeSign(']');
            }
            if (tokens.isWord(WORD_ALL)) {
                draft.rules.add(STEP_CONSTANT, 1);
                tokens.next();
                return true;
            }
            if (!sum(open)) {
                return false;
            }
            int step = compareStep();
            if (step == NONE) {
                return fail(FAULT_TEXT, tokens.start);
            }
            tokens.next();
            if (!sum(open)) {
                return false;
            }
            draft.rules.add(step, 0);
            return true;
        }

        private boolean sum(int open) {
            if (!product(open)) {
                return false;
            }
            for (int k = 0; k < TAPE_LIMIT && (tokens.isSign('+') || tokens.isSign('-')); k++) {
                int step = tokens.isSign('+') ? STEP_ADD : STEP_SUBTRACT;
                tokens.next();
                if (!product(open)) {
                    return false;
                }
                draft.rules.add(step, 0);
            }
            return true;
        }

        private boolean product(int open) {
            if (!factor(open)) {
                return false;
            }
            for (int k = 0; k < TAPE_LIMIT && (tokens.isSign('*') || tokens.isSign('/')); k++) {
                int step = tokens.isSign('*') ? STEP_MULTIPLY : STEP_DIVIDE;
                tokens.next();
                if (!factor(open)) {
                    return false;
                }
                draft.rules.add(step, 0);
            }
            return true;
        }

        private boolean factor(int open) {
            if (tokens.kind == TOKEN_NUMBER) {
                if (!checkNumber(0, VALUE_LIMIT)) {
                    return false;
                }
                draft.rules.add(STEP_CONSTANT, tokens.number);
                tokens.next();
                return true;
            }
            if (tokens.isSign('(')) {
                return takeOpening(open) && sum(open + 1) && takeSign(')');
            }
            if (tokens.isWord(WORD_MIN)) {
                return choice(open, STEP_MIN);
            }
            if (tokens.isWord(WORD_MAX)) {
                return choice(open, STEP_MAX);
            }
            if (tokens.isWord(WORD_NEAR) && scope == RULE_QUESTION) {
                if (!takeOpening(open) || !factor(open + 1)) {
                    return false;
                }
                draft.rules.add(STEP_NEAR, 0);
                return true;
            }
            int step = valueStep();
            if (step == NONE) {
                return fail(FAULT_TEXT, tokens.start);
            }
            draft.rules.add(step, 0);
            tokens.next();
            return true;
        }

        private boolean choice(int open, int step) {
            tokens.next();
            if (!tokens.isSign('(')) {
                return fail(FAULT_TEXT, tokens.start);
            }
            if (!takeOpening(open) || !sum(open + 1) || !takeSign(',')) {
                return false;
            }
            if (!sum(open + 1) || !takeSign(')')) {
                return false;
            }
            draft.rules.add(step, 0);
            return true;
        }

        /** Takes a token that stays open, behind so many others: this bounds the recursion too. */
        private boolean takeOpening(int open) {
            if (open >= OPEN_LIMIT) {
                return fail(FAULT_DEPTH, tokens.start);
            }
            tokens.next();
            return true;
        }

        private int compareStep() {
            if (tokens.isSign('<')) {
                return STEP_BELOW;
            }
            if (tokens.isSign('>')) {
                return STEP_ABOVE;
            }
            return tokens.isSign('=') ? STEP_EQUAL : NONE;
        }

        private int valueStep() {
            switch (tokens.kind == TOKEN_WORD ? tokens.word : NONE) {
                case WORD_AIR:
                    return STEP_AIR;
                case WORD_MOST:
                    return STEP_MOST;
                case WORD_LEAST:
                    return STEP_LEAST;
                case WORD_NIGHT:
                    return STEP_NIGHT;
                case WORD_GALES:
                    return STEP_GALES;
                case WORD_TOLD:
                    return scope >= RULE_TURNS ? STEP_TOLD : NONE;
                case WORD_NUMBER:
                    return scope == RULE_QUESTION ? STEP_NUMBER : NONE;
                case WORD_AUNT:
                    return scope == RULE_QUESTION ? STEP_AUNT : NONE;
                case WORD_DEAF:
                    return scope == RULE_QUESTION ? STEP_DEAF : NONE;
                default:
                    return NONE;
            }
        }
    }

    /** How it is on one night: aunts and deaf are bits, acts as an image writes them. */
    private static final class Sky {
        final int[] air = new int[PARTS_LIMIT];
        final int[] acts = new int[PARTS_LIMIT];
        int night = 0;
        int aunts = 0;
        int deaf = 0;

        Sky() {
            Arrays.fill(acts, NO_ACT);
        }

        void startIn(City city) {
            System.arraycopy(city.firstAir, 0, air, 0, PARTS_LIMIT);
            Arrays.fill(acts, NO_ACT);
            night = 0;
            aunts = city.aunts;
            deaf = city.deaf;
        }

        void copyOf(Sky other) {
            System.arraycopy(other.air, 0, air, 0, PARTS_LIMIT);
            System.arraycopy(other.acts, 0, acts, 0, PARTS_LIMIT);
            night = other.night;
            aunts = other.aunts;
            deaf = other.deaf;
        }

        int wholeAir(int parts) {
            int whole = 0;
            for (int p = 0; p < parts && p < air.length; p++) {
                whole += air[p];
            }
            return whole;
        }
    }

    /** What is read and told under a sky, and what it turns to. */
    private static final class Weather {
        private final City city;
        private final int[] stack = new int[STACK_SIZE];
        private final int[] most = new int[PARTS_LIMIT];
        private final int[] least = new int[PARTS_LIMIT];
        private int gales = 0;
        final int[] read = new int[PARTS_LIMIT];
        final int[] told = new int[PARTS_LIMIT];
        final int[] next = new int[PARTS_LIMIT];

        Weather(City city) {
            this.city = city;
        }

        int countGales(Sky sky) {
            int count = 0;
            for (int p = 0; p < city.parts; p++) {
                if (sky.air[p] >= city.gale) {
                    count++;
                }
            }
            return count;
        }

        /** What sums ask for, what is read and told, and the air then; all else here wants it first. */
        void foresee(Sky sky) {
            gales = countGales(sky);
            for (int p = 0; p < city.parts; p++) {
                lookAround(p, sky);
            }
            for (int p = 0; p < city.parts; p++) {
                int act = sky.acts[p];
                if (act == NO_ACT) {
                    read[p] = airOf(valueOf(city.rules, RULE_SAYS, p, sky));
                } else {
                    read[p] = act == HUSHED ? NONE : act;
                }
                boolean listens = read[p] != NONE && ((sky.deaf >> p) & 1) == 0;
                told[p] = listens ? read[p] : sky.air[p];
            }
            for (int p = 0; p < city.parts; p++) {
                next[p] = airOf(valueOf(city.rules, RULE_TURNS, p, sky));
            }
        }

        /** Lets the night that was foreseen pass: how many gales rise. */
        int pass(Sky sky) {
            int rose = 0;
            for (int p = 0; p < city.parts; p++) {
                if (galeRises(p, sky)) {
                    rose++;
                }
                sky.air[p] = next[p];
                sky.acts[p] = NO_ACT;
            }
            if (sky.night < NIGHT_LIMIT) {
                sky.night++;
            }
            return rose;
        }

        boolean galeRises(int part, Sky sky) {
            return sky.air[part] < city.gale && next[part] >= city.gale;
        }

        int rivalFor(int part, Sky sky) {
            return airOf(valueOf(city.rules, RULE_RIVAL, part, sky));
        }

        private void lookAround(int part, Sky sky) {
            int heard = city.near[part] & ~sky.aunts;
            int high = heard == 0 ? sky.air[part] : 0;
            int low = heard == 0 ? sky.air[part] : AIR_LIMIT;
            for (int p = 0; p < city.parts; p++) {
                if (((heard >> p) & 1) == 1) {
                    high = Math.max(high, sky.air[p]);
                    low = Math.min(low, sky.air[p]);
                }
            }
            most[part] = high;
            least[part] = low;
        }

        int valueOf(Rules rules, int rule, int part, Sky sky) {
            int top = 0;
            for (int k = rules.from[rule]; k < rules.to[rule]; k++) {
                int step = rules.steps[k] & STEP_MASK;
                if (step <= LAST_VALUE) {
                    if (top < stack.length) {
                        stack[top] = step == STEP_CONSTANT ? rules.steps[k] >> STEP_BITS : fresh(step, part, sky);
                        top++;
                    }
                } else if (step <= LAST_SINGLE) {
                    if (top > 0) {
                        stack[top - 1] = changed(step, stack[top - 1], part);
                    }
                } else if (top > 1) {
                    top--;
                    stack[top - 1] = step <= LAST_SUM
                        ? joined(step, stack[top - 1], stack[top])
                        : compared(step, stack[top - 1], stack[top]);
                }
            }
            return top > 0 ? stack[0] : 0;
        }

        private int fresh(int step, int part, Sky sky) {
            switch (step) {
                case STEP_AIR:
                    return sky.air[part];
                case STEP_MOST:
                    return most[part];
                case STEP_LEAST:
                    return least[part];
                case STEP_NIGHT:
                    return sky.night;
                case STEP_GALES:
                    return gales;
                case STEP_TOLD:
                    return told[part];
                case STEP_NUMBER:
                    return part;
                case STEP_AUNT:
                    return (sky.aunts >> part) & 1;
                default:
                    return (sky.deaf >> part) & 1;
            }
        }

        private int changed(int step, int value, int part) {
            if (step == STEP_NEAR) {
                return city.holds(value) ? (city.near[part] >> value) & 1 : 0;
            }
            return value == 0 ? 1 : 0;
        }

        // All values keep within the limit, so that it changes sums, differences and products alone.
        private static int joined(int step, int a, int b) {
            long value = 0;
            switch (step) {
                case STEP_ADD:
                    value = (long) a + b;
                    break;
                case STEP_SUBTRACT:
                    value = (long) a - b;
                    break;
                case STEP_MULTIPLY:
                    value = (long) a * b;
                    break;
                case STEP_DIVIDE:
                    value = b == 0 ? 0 : Math.floorDiv(a, b);
                    break;
                case STEP_MIN:
                    value = Math.min(a, b);
                    break;
                default:
                    value = Math.max(a, b);
                    break;
            }
            return (int) Math.max(-VALUE_LIMIT, Math.min(VALUE_LIMIT, value));
        }

        private static int compared(int step, int a, int b) {
            switch (step) {
                case STEP_BELOW:
                    return a < b ? 1 : 0;
                case STEP_ABOVE:
                    return a > b ? 1 : 0;
                case STEP_EQUAL:
                    return a == b ? 1 : 0;
                case STEP_AND:
                    return a & b;
                default:
                    return a | b;
            }
        }
    }

    /** The last gales that rose, the oldest first. */
    private static final class Kept {
        private final int[] rows = new int[KEPT_LIMIT];
        int count = 0;

        void add(int night, int part, int air) {
            if (count == KEPT_LIMIT) {
                System.arraycopy(rows, 1, rows, 0, KEPT_LIMIT - 1);
                count--;
            }
            rows[count] = (night << 8) | (part << 5) | air;
            count++;
        }

        int row(int k, int what) {
            if (k < 0 || k >= count) {
                return NONE;
            }
            switch (what) {
                case 0:
                    return rows[k] >> 8;
                case 1:
                    return (rows[k] >> 5) & 7;
                case 2:
                    return rows[k] & 31;
                default:
                    return NONE;
            }
        }

        void copyOf(Kept other) {
            System.arraycopy(other.rows, 0, rows, 0, KEPT_LIMIT);
            count = other.count;
        }
    }

    /** How it was ahead of each of the last acts, in a ring. */
    private static final class History {
        private final Sky[] skies = new Sky[UNDO_LIMIT];
        private final Kept[] gusts = new Kept[UNDO_LIMIT];
        private int next = 0;
        int count = 0;

        History() {
            for (int k = 0; k < UNDO_LIMIT; k++) {
                skies[k] = new Sky();
                gusts[k] = new Kept();
            }
        }

        void remember(Sky sky, Kept kept) {
            skies[next].copyOf(sky);
            gusts[next].copyOf(kept);
            next = (next + 1) % UNDO_LIMIT;
            count = Math.min(count + 1, UNDO_LIMIT);
        }

        boolean goBack(Sky sky, Kept kept) {
            if (count == 0) {
                return false;
            }
            count--;
            next = (next + UNDO_LIMIT - 1) % UNDO_LIMIT;
            sky.copyOf(skies[next]);
            kept.copyOf(gusts[next]);
            return true;
        }
    }

    /** Rows of what is seen: nights ahead, part, air. */
    private static final class Seen {
        private final int[] rows = new int[3 * SEEN_LIMIT];
        int count = 0;

        boolean isToldBy(Tape tape, int parts) {
            if (tape.length < 3 || tape.length > rows.length || tape.length % 3 != 0) {
                return false;
            }
            for (int at = 0; at < tape.length; at += 3) {
                if (tape.bytes[at] > STUDY_NIGHTS || tape.bytes[at + 1] >= parts || tape.bytes[at + 2] > AIR_LIMIT) {
                    return false;
                }
            }
            return true;
        }

        void take(Tape tape) {
            int length = Math.min(tape.length, rows.length);
            System.arraycopy(tape.bytes, 0, rows, 0, length);
            count = length / 3;
        }

        int latestNight() {
            int latest = 0;
            for (int k = 0; k < count; k++) {
                latest = Math.max(latest, rows[3 * k]);
            }
            return latest;
        }

        boolean allows(int ahead, Sky sky) {
            for (int k = 0; k < count; k++) {
                if (rows[3 * k] == ahead && sky.air[rows[3 * k + 1]] != rows[3 * k + 2]) {
                    return false;
                }
            }
            return true;
        }
    }

    /** What is found by letting nights pass under a trial sky. */
    private static final class Outlook {
        private static final long UNKNOWN = -1L;

        private final City city;
        private final Weather weather;
        private final Sky now;
        private final Seen seen;
        private final Sky trial = new Sky();
        private final long[] airBehind = new long[1 << PARTS_LIMIT];
        private final int[] tally = new int[STUDY_NIGHTS * AIR_COUNT];
        int found = NONE;
        int foundCount = NONE;

        Outlook(City city, Weather weather, Sky now, Seen seen) {
            this.city = city;
            this.weather = weather;
            this.now = now;
            this.seen = seen;
        }

        boolean canCome(int n, int limit) {
            return n >= 1 && n <= limit && now.night + n <= NIGHT_LIMIT;
        }

        Sky skyBehind(int n) {
            trial.copyOf(now);
            for (int k = 0; k < n; k++) {
                weather.foresee(trial);
                weather.pass(trial);
            }
            return trial;
        }

        int firstGale(int part) {
            int last = Math.min(LATER_NIGHTS, NIGHT_LIMIT - now.night);
            trial.copyOf(now);
            for (int k = 0; k <= last; k++) {
                if (trial.air[part] >= city.gale) {
                    return k;
                }
                weather.foresee(trial);
                weather.pass(trial);
            }
            return NONE;
        }

        int trueNumbers(int part) {
            int bits = 0;
            trial.copyOf(now);
            for (int number = 0; number <= AIR_LIMIT; number++) {
                trial.acts[part] = number;
                weather.foresee(trial);
                if (weather.next[part] == number) {
                    bits |= 1 << number;
                }
            }
            return bits;
        }

        /** Finds the number to SAY, and how many gales rise then. */
        void findSaying(int part, int n) {
            int trueOnes = trueNumbers(part);
            found = NONE;
            for (int number = 0; number <= AIR_LIMIT; number++) {
                trial.copyOf(now);
                trial.acts[part] = number;
                int rose = 0;
                for (int k = 0; k < n; k++) {
                    weather.foresee(trial);
                    rose += weather.pass(trial);
                }
                boolean first = found == NONE;
                if (first || rose < foundCount || (rose == foundCount && isTruer(trueOnes, number, found))) {
                    found = number;
                    foundCount = rose;
                }
            }
        }

        private static boolean isTruer(int trueOnes, int number, int other) {
            return ((trueOnes >> number) & 1) > ((trueOnes >> other) & 1);
        }

        int fewestAunts(int part, int n) {
            int barred = now.aunts | (1 << part);
            for (int size = 0; size <= AUNTS_LIMIT; size++) {
                for (int set = 0; set < 1 << city.parts; set++) {
                    if (Integer.bitCount(set) == size && (set & barred) == 0 && keepsGaleOff(part, n, set)) {
                        return set;
                    }
                }
            }
            return NONE;
        }

        private boolean keepsGaleOff(int part, int n, int set) {
            trial.copyOf(now);
            trial.aunts |= set;
            for (int k = 0; k < n; k++) {
                weather.foresee(trial);
                weather.pass(trial);
                if (trial.air[part] >= city.gale) {
                    return false;
                }
            }
            return true;
        }

        int timesRight(boolean bureau, int n) {
            int times = 0;
            trial.copyOf(now);
            for (int k = 0; k < n; k++) {
                weather.foresee(trial);
                for (int p = 0; p < city.parts; p++) {
                    int said = bureau ? weather.read[p] : weather.rivalFor(p, trial);
                    if (said == weather.next[p]) {
                        times++;
                    }
                }
                weather.pass(trial);
            }
            return times;
        }

        int deafAtRest(int n) {
            Arrays.fill(airBehind, UNKNOWN);
            for (int size = 0; size <= city.parts; size++) {
                for (int set = 0; set < 1 << city.parts; set++) {
                    if (Integer.bitCount(set) == size && isAtRest(set, n)) {
                        return set;
                    }
                }
            }
            return NONE;
        }

        private boolean isAtRest(int set, int n) {
            learnAir(set, n);
            for (int p = 0; p < city.parts; p++) {
                int other = set ^ (1 << p);
                learnAir(other, n);
                long mine = (airBehind[set] >> (5 * p)) & 31;
                long otherwise = (airBehind[other] >> (5 * p)) & 31;
                if (otherwise < mine) {
                    return false;
                }
            }
            return true;
        }

        // Each set is asked for many times, so that its airs are kept, five bits a part.
        private void learnAir(int set, int n) {
            if (airBehind[set] != UNKNOWN) {
                return;
            }
            trial.copyOf(now);
            trial.deaf = set;
            for (int k = 0; k < n; k++) {
                weather.foresee(trial);
                weather.pass(trial);
            }
            long packed = 0;
            for (int p = 0; p < city.parts; p++) {
                packed |= (long) trial.air[p] << (5 * p);
            }
            airBehind[set] = packed;
        }

        int fittingNumbers(int part) {
            int latest = seen.latestNight();
            if (now.night + latest > NIGHT_LIMIT) {
                return 0;
            }
            int bits = 0;
            for (int number = 0; number <= AIR_LIMIT; number++) {
                if (fitsSeen(part, number, latest)) {
                    bits |= 1 << number;
                }
            }
            return bits;
        }

        private boolean fitsSeen(int part, int number, int latest) {
            trial.copyOf(now);
            trial.air[part] = number;
            for (int k = 0; k < latest; k++) {
                if (!seen.allows(k, trial)) {
                    return false;
                }
                weather.foresee(trial);
                weather.pass(trial);
            }
            return seen.allows(latest, trial);
        }

        /** Finds the TELLING night, and how many numbers it leaves at the most. */
        void findTelling(int part, int numbers) {
            int last = Math.min(STUDY_NIGHTS, NIGHT_LIMIT - now.night);
            found = NONE;
            foundCount = NONE;
            if (numbers == 0) {
                return;
            }
            tallyAirs(part, numbers, last);
            for (int k = 0; k < last; k++) {
                int left = mostTallied(k);
                if (found == NONE || left < foundCount) {
                    found = k + 1;
                    foundCount = left;
                }
            }
        }

        private void tallyAirs(int part, int numbers, int last) {
            Arrays.fill(tally, 0);
            for (int number = 0; number <= AIR_LIMIT; number++) {
                if (((numbers >> number) & 1) == 1) {
                    trial.copyOf(now);
                    trial.air[part] = number;
                    for (int k = 0; k < last; k++) {
                        weather.foresee(trial);
                        weather.pass(trial);
                        tally[k * AIR_COUNT + trial.air[part]]++;
                    }
                }
            }
        }

        private int mostTallied(int k) {
            int most = 0;
            for (int air = 0; air <= AIR_LIMIT; air++) {
                most = Math.max(most, tally[k * AIR_COUNT + air]);
            }
            return most;
        }
    }
}
