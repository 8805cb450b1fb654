import java.util.ArrayList;
import java.util.Arrays;
import java.util.HashMap;
import java.util.List;
import java.util.Map;
import java.util.TreeSet;

/** The document once more, as slowly and literally as it reads, to hold the class against. */
final class Model {
    static final int NONE = -1, BAD = -2, STATE = -3;
    static final long NO = Long.MIN_VALUE;

    /** A family: its members and its kind. */
    static final class Fam {
        final TreeSet<Integer> sets = new TreeSet<>();
        int kind;

        Fam(Iterable<Integer> sets, int kind) {
            for (int s : sets) {
                this.sets.add(s);
            }
            this.kind = kind;
        }
    }

    /** What an image keeps. */
    static final class World {
        int n = 4;
        final Fam[] fams = new Fam[6];
        int[][] table = new int[4][4];
        int[] weights = new int[4];

        World copied() {
            World w = new World();
            w.n = n;
            for (int f = 0; f < 6; f++) {
                w.fams[f] = fams[f] == null ? null : new Fam(fams[f].sets, fams[f].kind);
            }
            w.table = new int[n][];
            for (int i = 0; i < n; i++) {
                w.table[i] = table[i].clone();
            }
            w.weights = weights.clone();
            return w;
        }
    }

    World w = new World();
    World kept = null;
    final Object[] rows = new Object[4];

    boolean badF(int f) { return f < 0 || f > 5; }
    boolean badS(int s) { return s < 0 || s > (1 << w.n) - 1; }
    boolean badP(int p) { return p < 0 || p > w.n - 1; }
    boolean badR(int r) { return r < 0 || r > 3; }
    boolean badIn(int v, int least, int most) { return v < least || v > most; }
    boolean gone(int f) { return w.fams[f] == null; }
    static boolean in(int set, int point) { return (set & (1 << point)) != 0; }

    int becomes(int f, Iterable<Integer> sets, int kind) {
        w.fams[f] = new Fam(sets, kind);
        return w.fams[f].sets.size();
    }

    int there() {
        int many = 0;
        for (Fam fam : w.fams) {
            many += fam == null ? 0 : 1;
        }
        return many;
    }

    int ground(int n) {
        if (badIn(n, 1, 6)) return BAD;
        int was = w.n;
        w = new World();
        w.n = n;
        w.table = new int[n][n];
        w.weights = new int[n];
        return was;
    }

    int tell(int f, int set, int is) {
        if (badF(f) || badS(set) || badIn(is, 0, 1)) return BAD;
        if (gone(f)) w.fams[f] = new Fam(new ArrayList<>(), 0);
        int was = w.fams[f].sets.contains(set) ? 1 : 0;
        if (is == 1) w.fams[f].sets.add(set); else w.fams[f].sets.remove(set);
        w.fams[f].kind = 0;
        return was;
    }

    int sized(int f, int least, int most) {
        if (badF(f) || badIn(least, 0, w.n) || badIn(most, 0, w.n) || least > most) return BAD;
        List<Integer> sets = new ArrayList<>();
        for (int s = 0; s < 1 << w.n; s++) {
            if (Integer.bitCount(s) >= least && Integer.bitCount(s) <= most) sets.add(s);
        }
        return becomes(f, sets, 1);
    }

    int tabled(int f) {
        if (badF(f)) return BAD;
        List<Integer> sets = new ArrayList<>();
        for (int s = 0; s < 1 << w.n; s++) {
            if (whole(s) != 0) sets.add(s);
        }
        return becomes(f, sets, 2);
    }

    List<Integer> twistedBy(int f, int set) {
        List<Integer> sets = new ArrayList<>();
        for (int m : w.fams[f].sets) sets.add(m ^ set);
        return sets;
    }

    int twist(int f, int set, int to) {
        if (badF(f) || badS(set) || badF(to)) return BAD;
        if (gone(f)) return -11;
        return becomes(to, twistedBy(f, set), 3);
    }

    int dual(int f, int to) {
        if (badF(f) || badF(to)) return BAD;
        if (gone(f)) return -11;
        return becomes(to, twistedBy(f, (1 << w.n) - 1), 5);
    }

    int reduce(int f, int point, int way, int to) {
        if (badF(f) || badP(point) || badIn(way, 0, 1) || badF(to)) return BAD;
        if (gone(f)) return -11;
        TreeSet<Integer> with = new TreeSet<>();
        TreeSet<Integer> without = new TreeSet<>();
        for (int m : w.fams[f].sets) {
            if (in(m, point)) with.add(m - (1 << point)); else without.add(m);
        }
        // Where the wanted ones are none, all there are is the other heap, each without the point.
        TreeSet<Integer> wanted = way == 0 ? without : with;
        TreeSet<Integer> rest = way == 0 ? with : without;
        return becomes(to, wanted.isEmpty() ? rest : wanted, 4);
    }

    int clear(int f) {
        if (badF(f)) return BAD;
        if (gone(f)) return -11;
        int many = w.fams[f].sets.size();
        w.fams[f] = null;
        return many;
    }

    int has(int f, int set) {
        if (badF(f) || badS(set)) return BAD;
        if (gone(f)) return -11;
        return w.fams[f].sets.contains(set) ? 1 : 0;
    }

    int member(int f, int k) {
        if (badF(f) || k < -1) return BAD;
        if (gone(f)) return -11;
        List<Integer> sets = new ArrayList<>(w.fams[f].sets);
        if (k == -1) return sets.size();
        return k < sets.size() ? sets.get(k) : -12;
    }

    int of(int f, int what) {
        if (badF(f) || badIn(what, 0, 7)) return BAD;
        if (gone(f)) return -11;
        TreeSet<Integer> sets = w.fams[f].sets;
        TreeSet<Integer> sizes = new TreeSet<>();
        TreeSet<Integer> remainders = new TreeSet<>();
        int all = (1 << w.n) - 1, union = 0, common = all;
        for (int m : sets) {
            sizes.add(Integer.bitCount(m));
            remainders.add(Integer.bitCount(m) % 2);
            union |= m;
            common &= m;
        }
        switch (what) {
            case 0: return w.fams[f].kind;
            case 1: return !sets.isEmpty() && failure(f) == null ? 1 : 0;
            case 2: return remainders.size() < 2 ? 1 : 0;
            case 3: return sizes.size() < 2 ? 1 : 0;
            case 4: return all & ~union;
            case 5: return common;
            case 6: return sizes.isEmpty() ? NONE : sizes.first();
            default: return sizes.isEmpty() ? NONE : sizes.last();
        }
    }

    int taken(int f, int k) {
        if (badF(f) || badIn(k, 0, 5)) return BAD;
        if (gone(f)) return -11;
        int kind = w.fams[f].kind;
        boolean fits = kind == k || k == 0 || kind == 5 && k == 3;
        return fits ? w.fams[f].sets.size() : -13;
    }

    int partnerOf(TreeSet<Integer> sets, int x, int y, int u) {
        for (int v = 0; v < w.n; v++) {
            int change = v == u ? 1 << u : (1 << u) + (1 << v);
            if (in(x ^ y, v) && sets.contains(x ^ change)) return v;
        }
        return NONE;
    }

    int[] failure(int f) {
        TreeSet<Integer> sets = w.fams[f].sets;
        for (int x : sets) {
            for (int y : sets) {
                for (int u = 0; u < w.n; u++) {
                    if (in(x ^ y, u) && partnerOf(sets, x, y, u) == NONE) return new int[] {x, y, u};
                }
            }
        }
        return null;
    }

    int fails(int f, int what) {
        if (badF(f) || badIn(what, 0, 2)) return BAD;
        if (gone(f)) return -11;
        int[] found = failure(f);
        return found == null ? NONE : found[what];
    }

    int partner(int f, int x, int y, int u) {
        if (badF(f) || badS(x) || badS(y) || badP(u)) return BAD;
        if (gone(f)) return -11;
        TreeSet<Integer> sets = w.fams[f].sets;
        if (!sets.contains(x) || !sets.contains(y) || !in(x ^ y, u)) return STATE;
        return partnerOf(sets, x, y, u);
    }

    int near(int f, int set) {
        if (badF(f) || badS(set)) return BAD;
        if (gone(f)) return -11;
        int least = NONE;
        for (int m : w.fams[f].sets) {
            int size = Integer.bitCount(m ^ set);
            if (least == NONE || size < least) least = size;
        }
        return least;
    }

    int apart(int f, int x, int y) {
        if (badF(f) || badS(x) || badS(y)) return BAD;
        if (gone(f)) return -11;
        TreeSet<Integer> sets = w.fams[f].sets;
        if (!sets.contains(x) || !sets.contains(y)) return STATE;
        Map<Integer, Integer> far = new HashMap<>();
        List<Integer> queue = new ArrayList<>();
        far.put(x, 0);
        queue.add(x);
        for (int at = 0; at < queue.size(); at++) {
            for (int m : sets) {
                int size = Integer.bitCount(m ^ queue.get(at));
                if ((size == 1 || size == 2) && !far.containsKey(m)) {
                    far.put(m, far.get(queue.get(at)) + 1);
                    queue.add(m);
                }
            }
        }
        return far.getOrDefault(y, NONE);
    }

    int weight(int point, int v) {
        if (badP(point) || badIn(v, -99, 99)) return -1000;
        int was = w.weights[point];
        w.weights[point] = v;
        return was;
    }

    int heavy(int set) {
        int sum = 0;
        for (int p = 0; p < w.n; p++) sum += in(set, p) ? w.weights[p] : 0;
        return sum;
    }

    int weighs(int set) {
        return badS(set) ? -1000 : heavy(set);
    }

    int greed(int f) {
        if (badF(f)) return BAD;
        if (gone(f)) return -11;
        if (w.fams[f].sets.isEmpty()) return NONE;
        List<Integer> order = new ArrayList<>();
        for (int p = 0; p < w.n; p++) order.add(p);
        order.sort((a, b) -> {
            int byWeight = Math.abs(w.weights[b]) - Math.abs(w.weights[a]);
            return byWeight != 0 ? byWeight : a - b;
        });
        int took = 0, left = 0;
        for (int p : order) {
            boolean take = w.weights[p] >= 0;
            if (!anyWith(f, take ? took | 1 << p : took, take ? left : left | 1 << p)) take = !take;
            if (take) took |= 1 << p; else left |= 1 << p;
        }
        return took;
    }

    boolean anyWith(int f, int all, int none) {
        for (int m : w.fams[f].sets) {
            if ((m & all) == all && (m & none) == 0) return true;
        }
        return false;
    }

    int best(int f) {
        if (badF(f)) return BAD;
        if (gone(f)) return -11;
        int found = NONE;
        for (int m : w.fams[f].sets) {
            if (found == NONE || heavy(m) > heavy(found)) found = m;
        }
        return found;
    }

    int entry(int i, int j, int v) {
        if (badP(i) || badP(j) || i == j || badIn(v, 0, 6)) return BAD;
        int was = w.table[i][j];
        w.table[i][j] = v;
        w.table[j][i] = (7 - v) % 7;
        return was;
    }

    int entryOf(int i, int j) {
        return badP(i) || badP(j) ? BAD : w.table[i][j];
    }

    int whole(int set) {
        return badS(set) ? BAD : minor(set, set);
    }

    /** The determinant of some rows and columns, by the first row. */
    int minor(int rowSet, int columnSet) {
        if (rowSet == 0) return 1;
        int row = Integer.numberOfTrailingZeros(rowSet);
        int sum = 0, sign = 1;
        for (int column = 0; column < w.n; column++) {
            if (!in(columnSet, column)) continue;
            if (w.table[row][column] != 0) {
                sum += sign * w.table[row][column] * minor(rowSet - (1 << row), columnSet - (1 << column));
            }
            sign = -sign;
        }
        return Math.floorMod(sum, 7);
    }

    int pivot(int set) {
        if (badS(set)) return BAD;
        if (whole(set) == 0) return STATE;
        int n = w.n;
        // newY = turn y, newZ = rest y; so newZ = (rest turn^-1) newY
        int[][] turn = new int[n][], rest = new int[n][];
        for (int i = 0; i < n; i++) {
            int[] unit = new int[n];
            unit[i] = 1;
            turn[i] = in(set, i) ? w.table[i].clone() : unit;
            rest[i] = in(set, i) ? unit : w.table[i].clone();
        }
        int[][] inverse = inverse(turn);
        for (int i = 0; i < n; i++) {
            for (int j = 0; j < n; j++) {
                int sum = 0;
                for (int k = 0; k < n; k++) sum += rest[i][k] * inverse[k][j];
                w.table[i][j] = sum % 7;
            }
        }
        return entries();
    }

    static int[][] inverse(int[][] given) {
        int n = given.length;
        int[][] a = new int[n][2 * n];
        for (int i = 0; i < n; i++) {
            System.arraycopy(given[i], 0, a[i], 0, n);
            a[i][n + i] = 1;
        }
        for (int c = 0; c < n; c++) {
            int lead = c;
            while (a[lead][c] == 0) lead++;
            int[] moved = a[lead];
            a[lead] = a[c];
            a[c] = moved;
            int by = 1;
            while (by * a[c][c] % 7 != 1) by++;
            for (int j = 0; j < 2 * n; j++) a[c][j] = a[c][j] * by % 7;
            for (int i = 0; i < n; i++) {
                int times = a[i][c];
                for (int j = 0; i != c && j < 2 * n; j++) a[i][j] = Math.floorMod(a[i][j] - times * a[c][j], 7);
            }
        }
        int[][] result = new int[n][];
        for (int i = 0; i < n; i++) result[i] = Arrays.copyOfRange(a[i], n, 2 * n);
        return result;
    }

    int entries() {
        int many = 0;
        for (int[] line : w.table) {
            for (int v : line) many += v != 0 ? 1 : 0;
        }
        return many;
    }

    static int power(int p) {
        int result = 1;
        for (int i = 0; i < p; i++) result *= 3;
        return result;
    }

    TreeSet<Integer> sums(int f, int g) {
        TreeSet<Integer> result = new TreeSet<>();
        for (int x : w.fams[f].sets) {
            for (int y : w.fams[g].sets) {
                int number = 0;
                for (int p = 0; p < w.n; p++) {
                    number += power(p) * ((in(x, p) ? 1 : 0) + (in(y, p) ? 1 : 0));
                }
                result.add(number);
            }
        }
        return result;
    }

    static int digit(int row, int p) { return row / power(p) % 3; }

    static int step(int row, int toward, int p) {
        return row + power(p) * Integer.compare(digit(toward, p), digit(row, p));
    }

    boolean goesOn(boolean[] is, int row, int toward) {
        if (is[row]) return true;
        for (int p = 0; p < w.n; p++) {
            if (digit(row, p) != digit(toward, p) && is[step(row, toward, p)]) return true;
        }
        return false;
    }

    boolean sprung(TreeSet<Integer> sums) {
        boolean[] is = new boolean[power(w.n)];
        for (int row : sums) is[row] = true;
        for (int a : sums) {
            for (int b : sums) {
                for (int p = 0; p < w.n; p++) {
                    if (digit(a, p) != digit(b, p) && !goesOn(is, step(a, b, p), b)) return false;
                }
            }
        }
        return !sums.isEmpty();
    }

    int jumps(int f, int g, int what) {
        if (badF(f) || badF(g) || badIn(what, 0, 3)) return BAD;
        if (gone(f) || gone(g)) return -11;
        TreeSet<Integer> sums = sums(f, g);
        if (what == 0) return sums.size();
        if (what == 1) return sprung(sums) ? 1 : 0;
        if (sums.isEmpty()) return NONE;
        return what == 2 ? sums.first() : sums.last();
    }

    int jump(int f, int g, int row) {
        if (badF(f) || badF(g) || badIn(row, 0, power(w.n) - 1)) return BAD;
        if (gone(f) || gone(g)) return -11;
        return sums(f, g).contains(row) ? 1 : 0;
    }

    int same(int f, int g, int way) {
        if (badF(f) || badF(g) || badIn(way, 0, 2)) return BAD;
        if (gone(f) || gone(g)) return -11;
        TreeSet<Integer> second = w.fams[g].sets;
        if (way == 0) return w.fams[f].sets.equals(second) ? 1 : 0;
        if (way == 2) return renamable(w.fams[f].sets, second, new ArrayList<>()) ? 1 : 0;
        for (int s = 0; s < 1 << w.n; s++) {
            if (new TreeSet<>(twistedBy(f, s)).equals(second)) return s;
        }
        return NONE;
    }

    /** names: what points 0 and on are called; all that can be added to it is tried. */
    boolean renamable(TreeSet<Integer> first, TreeSet<Integer> second, List<Integer> names) {
        if (names.size() == w.n) {
            TreeSet<Integer> renamed = new TreeSet<>();
            for (int m : first) {
                int set = 0;
                for (int p = 0; p < w.n; p++) set |= in(m, p) ? 1 << names.get(p) : 0;
                renamed.add(set);
            }
            return renamed.equals(second);
        }
        for (int name = 0; name < w.n; name++) {
            if (names.contains(name)) continue;
            List<Integer> more = new ArrayList<>(names);
            more.add(name);
            if (renamable(first, second, more)) return true;
        }
        return false;
    }

    static Object made(int sort, int n) {
        switch (sort) {
            case 0: return new byte[n];
            case 1: return new short[n];
            case 2: return new int[n];
            default: return new long[n];
        }
    }

    static void write(Object row, int i, long v) {
        if (row instanceof byte[] b) b[i] = (byte) v;
        if (row instanceof short[] s) s[i] = (short) v;
        if (row instanceof int[] a) a[i] = (int) v;
        if (row instanceof long[] l) l[i] = v;
    }

    int row(int row, int sort, int n) {
        if (badR(row) || badIn(sort, -1, 3)) return BAD;
        if (sort >= 0 && n > 80) return BAD;
        if (sort >= 0 && n < 0) return -14;
        rows[row] = sort == -1 ? null : made(sort, n);
        return 1;
    }

    int put(int row, int i, long v) {
        if (badR(row)) return BAD;
        if (rows[row] == null) return -11;
        if (badIn(i, 0, java.lang.reflect.Array.getLength(rows[row]) - 1)) return -12;
        write(rows[row], i, v);
        return 1;
    }

    long get(int row, int i) {
        if (badR(row) || rows[row] == null) return NO;
        if (badIn(i, 0, java.lang.reflect.Array.getLength(rows[row]) - 1)) return NO;
        return java.lang.reflect.Array.getLong(rows[row], i);
    }

    int copy(int row, int i, int other, int j, int n) {
        if (badR(row) || badR(other)) return BAD;
        // The rest is the host's own word.
        try {
            System.arraycopy(rows[row], i, rows[other], j, n);
            return n;
        } catch (NullPointerException e) {
            return -11;
        } catch (ArrayStoreException e) {
            return -13;
        } catch (IndexOutOfBoundsException e) {
            return -12;
        }
    }

    int lay(int f, int row) {
        if (badF(f) || badR(row)) return BAD;
        if (rows[row] == null) return -11;
        TreeSet<Integer> sets = new TreeSet<>();
        for (int i = 0; i < java.lang.reflect.Array.getLength(rows[row]); i++) {
            long v = java.lang.reflect.Array.getLong(rows[row], i);
            if (v >= 0 && v < 1 << w.n) sets.add((int) v);
        }
        return becomes(f, sets, 0);
    }

    int film(int f, int row, int sort) {
        if (badF(f) || badR(row) || badIn(sort, 0, 3)) return BAD;
        if (gone(f)) return -11;
        List<Integer> sets = new ArrayList<>(w.fams[f].sets);
        rows[row] = made(sort, sets.size());
        for (int i = 0; i < sets.size(); i++) write(rows[row], i, sets.get(i));
        return sets.size();
    }

    int image() {
        kept = w.copied();
        return there();
    }

    int back() {
        if (kept == null) return STATE;
        w = kept.copied();
        return there();
    }

    int count(int what) {
        int bits = 0;
        switch (what) {
            case 0: return w.n;
            case 1:
                for (int f = 0; f < 6; f++) bits |= gone(f) ? 0 : 1 << f;
                return bits;
            case 2:
                for (int r = 0; r < 4; r++) bits |= rows[r] == null ? 0 : 1 << r;
                return bits;
            case 3: return entries();
            default: return BAD;
        }
    }
}
