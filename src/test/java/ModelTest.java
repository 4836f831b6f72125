import java.util.ArrayList;
import java.util.List;
import java.util.Random;

/** Runs by chance, answered by the class and by the plain model; promises 4 to 32 together. */
public final class ModelTest {
    private static final int RUNS = 200;
    private static final int CALLS = 60;

    private final Check c;
    private final Random random;
    private final Sentences sentences;
    private NightForecast x;
    private Naive model;
    private final List<Naive> past = new ArrayList<>();
    private List<int[]> seen = new ArrayList<>();
    private long seed = 1;

    private ModelTest(Check c, int run) {
        this.c = c;
        this.random = new Random(run);
        this.sentences = new Sentences(random);
    }

    public static void main(String[] args) {
        Check c = new Check("ModelTest");
        for (int run = 0; run < RUNS; run++) {
            new ModelTest(c, run).go();
        }
        c.finish();
    }

    private void go() {
        x = new NightForecast();
        tellCity();
        for (int k = 0; k < CALLS; k++) {
            int kind = random.nextInt(10);
            if (kind < 4) {
                act();
            } else if (kind < 5) {
                see();
            } else if (kind < 7) {
                ask();
            } else {
                look();
            }
        }
        compareState();
    }

    private void tellCity() {
        StringBuilder text = new StringBuilder();
        int parts = random.nextInt(20) == 0 ? 0 : 1 + random.nextInt(random.nextInt(4) == 0 ? 7 : 4);
        model = new Naive(parts);
        int statements = parts;
        for (int p = 0; p < parts; p++) {
            model.air[p] = random.nextInt(21);
            text.append("part ").append((char) ('g' + p)).append(" air ").append(model.air[p]).append("; ");
        }
        for (int k = 0; k < 12 && parts > 1; k++) {
            int a = random.nextInt(parts);
            int b = random.nextInt(parts);
            if (a != b && !model.near[a][b] && random.nextInt(3) > 0) {
                model.near[a][b] = true;
                model.near[b][a] = true;
                text.append("near ").append((char) ('g' + a)).append('\n').append((char) ('g' + b)).append(";");
                statements++;
            }
        }
        for (int p = 0; p < parts; p++) {
            if (random.nextInt(4) == 0) {
                model.aunt[p] = true;
                text.append("aunt ").append((char) ('g' + p)).append(';');
                statements++;
            }
            if (random.nextInt(4) == 0) {
                model.deaf[p] = true;
                text.append("deaf ").append((char) ('g' + p)).append(';');
                statements++;
            }
        }
        statements += tellRules(text);
        c.due("length", text.length() <= 1600, true);
        Check.tell(x, text.toString());
        c.due("city() of " + text, x.city(), statements);
    }

    private int tellRules(StringBuilder text) {
        int statements = 0;
        if (random.nextInt(5) > 0) {
            Sentences.Sentence s = sentences.sum(Sentences.SAYS, 2);
            text.append("says ").append(s.text()).append(';');
            model.says = s.value();
            statements++;
        }
        if (random.nextInt(5) > 0) {
            Sentences.Sentence s = sentences.sum(Sentences.SAYS, 2);
            text.append("rival ").append(s.text()).append(';');
            model.rival = s.value();
            statements++;
        }
        if (random.nextInt(5) > 0) {
            Sentences.Sentence s = sentences.sum(Sentences.TURNS, 2);
            boolean mixed = random.nextBoolean();
            text.append("turns ").append(mixed ? "(told+most)/2+(" + s.text() + ")/5" : s.text()).append(';');
            Naive.Value v = s.value();
            model.turns = !mixed ? v : (w, p) ->
                Math.floorDiv(w.told(p) + w.most(p), 2) + Math.floorDiv(v.of(w, p), 5);
            statements++;
        }
        if (random.nextBoolean()) {
            model.gale = 1 + random.nextInt(20);
            text.append("gale ").append(model.gale).append(';');
            statements++;
        }
        if (random.nextBoolean()) {
            model.slip = random.nextInt(101);
            text.append("slip ").append(model.slip).append(" ;");
            statements++;
        }
        return statements;
    }

    private int anyPart() {
        return random.nextInt(10) == 0 ? random.nextInt(12) - 3 : random.nextInt(Math.max(1, model.parts));
    }

    private boolean holds(int p) {
        return p >= 0 && p < model.parts;
    }

    private void remember() {
        past.add(model.copy());
        if (past.size() > 20) {
            past.remove(0);
        }
    }

    private int draw(int m) {
        seed = (1103515245L * seed + 12345L) % (1L << 31);
        return (int) (seed / 64 % m);
    }

    private void act() {
        int p = anyPart();
        int on = random.nextInt(2);
        switch (random.nextInt(9)) {
            case 0:
                actTonight(p, random.nextInt(23) - 1);
                break;
            case 1:
                boolean hushes = holds(p) && (model.acts[p] == null || model.acts[p] != Naive.NOTHING_READ);
                if (hushes) {
                    remember();
                    model.acts[p] = Naive.NOTHING_READ;
                }
                c.due("hush", x.hush(p), hushes);
                break;
            case 2:
                boolean comes = holds(p) && model.aunt[p] != (on == 1);
                if (comes) {
                    remember();
                    model.aunt[p] = on == 1;
                }
                c.due("aunt", x.aunt(p, on), comes);
                break;
            case 3:
                boolean changes = holds(p) && model.deaf[p] != (on == 1);
                if (changes) {
                    remember();
                    model.deaf[p] = on == 1;
                }
                c.due("deaf", x.deaf(p, on), changes);
                break;
            case 4:
                passNights();
                break;
            case 5:
                passByChance();
                break;
            case 6:
                seed = random.nextInt(Integer.MAX_VALUE);
                c.due("seed", x.seed((int) seed), true);
                break;
            case 7:
                goBackByImage();
                break;
            default:
                boolean undoes = !past.isEmpty();
                if (undoes) {
                    model = past.remove(past.size() - 1);
                }
                c.due("undo", x.undo(), undoes);
                break;
        }
        compareState();
    }

    private void actTonight(int p, int number) {
        boolean fine = holds(p) && number >= 0 && number <= 20 && (model.acts[p] == null || model.acts[p] != number);
        if (fine) {
            remember();
            model.acts[p] = number;
        }
        c.due("read(" + p + ", " + number + ")", x.read(p, number), fine);
    }

    private void passNights() {
        int n = random.nextInt(5) == 0 ? random.nextInt(103) : random.nextInt(6);
        boolean fine = n >= 1 && n <= 100 && model.night + n <= 999;
        int rose = -1;
        if (fine) {
            remember();
            rose = model.pass(n);
        }
        c.due("nights(" + n + ")", x.nights(n), rose);
    }

    private void passByChance() {
        int n = random.nextInt(8);
        boolean fine = n >= 1 && model.night + n <= 999;
        int slips = fine ? 0 : -1;
        if (fine) {
            remember();
            for (int k = 0; k < n; k++) {
                if (draw(100) < model.slip && model.parts > 0) {
                    int part = draw(model.parts);
                    model.acts[part] = draw(21);
                    slips++;
                }
                model.pass();
            }
        }
        c.due("chance(" + n + ")", x.chance(n), slips);
    }

    /** An image of another night of this city comes in, sometimes near the last one. */
    private void goBackByImage() {
        Naive then = model.copy();
        then.night = random.nextInt(3) == 0 ? 999 - random.nextInt(40) : random.nextInt(1000);
        then.kept.clear();
        for (int p = 0; p < then.parts; p++) {
            then.air[p] = random.nextInt(21);
            then.aunt[p] = random.nextInt(3) == 0;
            then.deaf[p] = random.nextInt(3) == 0;
            int act = random.nextInt(30) - 1;
            then.acts[p] = act <= 20 ? Integer.valueOf(act) : null;
        }
        Check.tell(x, imageOf(then));
        c.due("on()", x.on(), true);
        model = then;
        past.clear();
    }

    private static int[] imageOf(Naive world) {
        int[] bytes = new int[3 + 3 * world.parts];
        bytes[0] = world.night / 256;
        bytes[1] = world.night % 256;
        for (int p = 0; p < world.parts; p++) {
            bytes[2 + 3 * p] = world.air[p];
            bytes[3 + 3 * p] = (world.aunt[p] ? 1 : 0) + (world.deaf[p] ? 2 : 0);
            Integer act = world.acts[p];
            bytes[4 + 3 * p] = act == null ? 255 : act == Naive.NOTHING_READ ? 254 : act;
        }
        int check = 137;
        for (int k = 0; k < bytes.length - 1; k++) {
            check = (3 * check + bytes[k]) % 251;
        }
        bytes[bytes.length - 1] = check;
        return bytes;
    }

    private void compareState() {
        int[] bytes = imageOf(model);
        c.due("image()", x.image(), bytes.length);
        for (int k = 0; k < bytes.length; k++) {
            c.due("octet(" + k + ")", x.octet(k), bytes[k]);
        }
        int told = Math.min(40, model.kept.size());
        c.due("has(3)", x.has(3), model.gales());
        c.due("has(7)", x.has(7), told);
        c.due("has(8)", x.has(8), seen.size());
        c.due("has(9)", x.has(9), past.size());
        for (int k = 0; k < told; k++) {
            int[] row = model.kept.get(model.kept.size() - told + k);
            for (int what = 0; what < 3; what++) {
                c.due("kept(" + k + ", " + what + ")", x.kept(k, what), row[what]);
            }
        }
    }

    private void see() {
        List<int[]> rows = new ArrayList<>();
        int count = random.nextInt(4) == 0 ? random.nextInt(18) : 1 + random.nextInt(2);
        int[] bytes = new int[3 * count];
        boolean fine = count >= 1 && count <= 16;
        for (int k = 0; k < count; k++) {
            int n = random.nextInt(20) == 0 ? random.nextInt(34) : random.nextInt(5);
            int p = random.nextInt(Math.max(1, model.parts));
            int air = random.nextInt(30) == 0 ? 21 : holds(p) && random.nextInt(3) > 0 ? model.behind(n).air[p] : 3;
            bytes[3 * k] = n;
            bytes[3 * k + 1] = p;
            bytes[3 * k + 2] = air;
            fine &= n <= 30 && holds(p) && air <= 20;
            rows.add(new int[] {n, p, air});
        }
        Check.tell(x, bytes);
        c.due("see()", x.see(), fine ? count : -1);
        seen = fine ? rows : seen;
    }

    private void ask() {
        String[] kinds = {"first", "last", "often", "total", "most", "least"};
        int kind = random.nextInt(6);
        Sentences.Sentence s = kind < 3 ? sentences.test(3) : sentences.sum(Sentences.QUESTION, 3);
        String text = kinds[kind] + " " + s.text();
        if (text.length() > 1600) {
            return;
        }
        long[] due = {-1, -1, 0, 0, 0, 0};
        for (int p = 0; p < model.parts; p++) {
            int value = s.value().of(model, p);
            if (value != 0) {
                due[0] = due[0] < 0 ? p : due[0];
                due[1] = p;
                due[2]++;
            }
            due[3] += value;
            due[4] = p == 0 ? value : Math.max(due[4], value);
            due[5] = p == 0 ? value : Math.min(due[5], value);
        }
        c.ask(x, text, due[kind]);
    }

    private void look() {
        int p = anyPart();
        if (!holds(p)) {
            c.due("tonight(" + p + ", 3)", x.tonight(p, 3), -1);
            c.due("comes(" + p + ")", x.comes(p), -1);
            c.due("fits(" + p + ")", x.fits(p), -1);
            return;
        }
        c.due("tonight 0", x.tonight(p, 0), model.read(p));
        c.due("tonight 1", x.tonight(p, 1), Naive.clip(model.rival.of(model, p)));
        c.due("tonight 2", x.tonight(p, 2), model.told(p));
        c.due("tonight 3", x.tonight(p, 3), model.next()[p]);
        c.due("comes", x.comes(p), model.comes(p));
        c.due("self", x.self(p), model.self(p));
        c.due("fits", x.fits(p), model.fits(p, seen));
        int[] tells = model.tells(p, seen);
        c.due("tells 0", x.tells(p, 0), tells[0]);
        c.due("tells 1", x.tells(p, 1), tells[1]);
        int n = random.nextInt(4) == 0 ? random.nextInt(63) : 1 + random.nextInt(4);
        boolean comes = model.night + n <= 999;
        boolean fine = comes && n <= 60;
        Naive then = fine ? model.behind(n) : null;
        c.due("later 0", x.later(p, n, 0), fine ? then.air[p] : -1);
        c.due("later 1", x.later(p, n, 1), fine ? then.gales() : -1);
        fine &= n > 0;
        c.due("right 0", x.right(0, n), fine ? model.right(0, n) : -1);
        c.due("right 1", x.right(1, n), fine ? model.right(1, n) : -1);
        fine = comes && n > 0 && n <= 30;
        c.due("aunts", x.aunts(p, n), fine ? model.aunts(p, n) : -1);
        c.due("rest", x.rest(n), fine ? model.rest(n) : -1);
        fine = comes && n > 0 && n <= 20;
        int[] say = fine ? model.say(p, n) : new int[] {-1, -1, -1};
        c.due("say 0", x.say(p, n, 0), say[2]);
        c.due("say 1", x.say(p, n, 1), say[0]);
    }
}
