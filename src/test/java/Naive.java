import java.util.ArrayList;
import java.util.List;

/** The document's Terms II and III once more, plainly and slowly, without the language. */
final class Naive {
    interface Value {
        int of(Naive world, int part);
    }

    static final int NOTHING_READ = -1;

    int parts;
    boolean[][] near;
    int gale = 15;
    int slip = 0;
    Value says = (world, p) -> world.air[p];
    Value rival = (world, p) -> world.most(p);
    Value turns = (world, p) -> world.told(p);

    int night = 0;
    int[] air;
    boolean[] aunt;
    boolean[] deaf;
    Integer[] acts;
    List<int[]> kept = new ArrayList<>();

    Naive(int parts) {
        this.parts = parts;
        near = new boolean[parts][parts];
        air = new int[parts];
        aunt = new boolean[parts];
        deaf = new boolean[parts];
        acts = new Integer[parts];
    }

    Naive copy() {
        Naive other = new Naive(parts);
        other.near = near;
        other.gale = gale;
        other.slip = slip;
        other.says = says;
        other.rival = rival;
        other.turns = turns;
        other.night = night;
        other.air = air.clone();
        other.aunt = aunt.clone();
        other.deaf = deaf.clone();
        other.acts = acts.clone();
        other.kept = new ArrayList<>(kept);
        return other;
    }

    static int clip(int value) {
        return value < 0 ? 0 : value > 20 ? 20 : value;
    }

    int extreme(int part, int sign) {
        Integer best = null;
        for (int p = 0; p < parts; p++) {
            if (near[part][p] && !aunt[p] && (best == null || sign * air[p] > sign * best)) {
                best = air[p];
            }
        }
        return best == null ? air[part] : best;
    }

    int most(int part) {
        return extreme(part, 1);
    }

    int least(int part) {
        return extreme(part, -1);
    }

    boolean isGale(int part) {
        return air[part] >= gale;
    }

    int gales() {
        int count = 0;
        for (int p = 0; p < parts; p++) {
            count += isGale(p) ? 1 : 0;
        }
        return count;
    }

    int read(int part) {
        return acts[part] != null ? acts[part] : clip(says.of(this, part));
    }

    int told(int part) {
        int number = read(part);
        return deaf[part] || number == NOTHING_READ ? air[part] : number;
    }

    int[] next() {
        int[] then = new int[parts];
        for (int p = 0; p < parts; p++) {
            then[p] = clip(turns.of(this, p));
        }
        return then;
    }

    int pass() {
        int[] then = next();
        int rose = 0;
        for (int p = 0; p < parts; p++) {
            if (!isGale(p) && then[p] >= gale) {
                rose++;
                kept.add(new int[] {night, p, then[p]});
            }
        }
        air = then;
        acts = new Integer[parts];
        night++;
        return rose;
    }

    int pass(int n) {
        int rose = 0;
        for (int k = 0; k < n; k++) {
            rose += pass();
        }
        return rose;
    }

    Naive behind(int n) {
        Naive then = copy();
        then.pass(n);
        return then;
    }

    int comes(int part) {
        for (int n = 0; n <= 60 && night + n <= 999; n++) {
            if (behind(n).isGale(part)) {
                return n;
            }
        }
        return -1;
    }

    Naive reading(int part, int number) {
        Naive other = copy();
        other.acts[part] = number;
        return other;
    }

    int self(int part) {
        int bits = 0;
        for (int v = 0; v <= 20; v++) {
            bits |= reading(part, v).next()[part] == v ? 1 << v : 0;
        }
        return bits;
    }

    int[] say(int part, int n) {
        int[] best = null;
        int trueOnes = self(part);
        for (int v = 20; v >= 0; v--) {
            int[] row = {reading(part, v).pass(n), 1 - (trueOnes >> v & 1), v};
            if (best == null || java.util.Arrays.compare(row, best) < 0) {
                best = row;
            }
        }
        return best;
    }

    int aunts(int part, int n) {
        int best = -1;
        for (int set = (1 << parts) - 1; set >= 0; set--) {
            int size = Integer.bitCount(set);
            Naive other = copy();
            boolean fine = size <= 3 && (set >> part & 1) == 0;
            for (int p = 0; p < parts; p++) {
                if ((set >> p & 1) == 1) {
                    fine &= !aunt[p];
                    other.aunt[p] = true;
                }
            }
            for (int k = 0; k < n && fine; k++) {
                other.pass();
                fine = !other.isGale(part);
            }
            if (fine && (best == -1 || size <= Integer.bitCount(best))) {
                best = set;
            }
        }
        return best;
    }

    int right(int station, int n) {
        Naive other = copy();
        int count = 0;
        for (int k = 0; k < n; k++) {
            int[] then = other.next();
            for (int p = 0; p < parts; p++) {
                int said = station == 0 ? other.read(p) : clip(other.rival.of(other, p));
                count += said == then[p] ? 1 : 0;
            }
            other.pass();
        }
        return count;
    }

    int[] airsIfDeaf(int set, int n) {
        Naive other = copy();
        for (int p = 0; p < parts; p++) {
            other.deaf[p] = (set >> p & 1) == 1;
        }
        other.pass(n);
        return other.air;
    }

    int rest(int n) {
        int best = -1;
        int[][] airs = new int[1 << parts][];
        for (int set = 0; set < 1 << parts; set++) {
            airs[set] = airsIfDeaf(set, n);
        }
        for (int set = (1 << parts) - 1; set >= 0; set--) {
            boolean rests = true;
            for (int p = 0; p < parts; p++) {
                rests &= airs[set ^ 1 << p][p] >= airs[set][p];
            }
            if (rests && (best == -1 || Integer.bitCount(set) <= Integer.bitCount(best))) {
                best = set;
            }
        }
        return best;
    }

    int fits(int part, List<int[]> seen) {
        int bits = 0;
        for (int v = 0; v <= 20; v++) {
            Naive other = copy();
            other.air[part] = v;
            boolean fine = true;
            for (int[] row : seen) {
                fine &= night + row[0] <= 999 && other.behind(row[0]).air[row[1]] == row[2];
            }
            bits |= fine ? 1 << v : 0;
        }
        return bits;
    }

    int[] tells(int part, List<int[]> seen) {
        int bits = fits(part, seen);
        int[] best = {-1, -1};
        for (int n = 30; n >= 1 && bits != 0; n--) {
            if (night + n > 999) {
                continue;
            }
            int[] left = new int[21];
            for (int v = 0; v <= 20; v++) {
                if ((bits >> v & 1) == 1) {
                    Naive other = copy();
                    other.air[part] = v;
                    left[other.behind(n).air[part]]++;
                }
            }
            int most = java.util.Arrays.stream(left).max().getAsInt();
            if (best[0] == -1 || most <= best[1]) {
                best = new int[] {n, most};
            }
        }
        return best;
    }
}
