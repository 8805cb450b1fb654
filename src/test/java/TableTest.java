import java.util.Random;

/** The table: promises 22 to 25. */
public final class TableTest extends Promises {
    /** Entries 0, 1; 0, 2; .. 1, 2; .. in this order. */
    private static ExchangeFamilies table(int n, int... entries) {
        ExchangeFamilies x = over(n);
        int at = 0;
        for (int i = 0; i < n; i++) {
            for (int j = i + 1; j < n; j++) {
                x.entry(i, j, entries[at++]);
            }
        }
        return x;
    }

    private static int[][] entriesOf(ExchangeFamilies x) {
        int n = x.count(0);
        int[][] entries = new int[n][n];
        for (int i = 0; i < n; i++) {
            for (int j = 0; j < n; j++) {
                entries[i][j] = x.entryOf(i, j);
            }
        }
        return entries;
    }

    // ---- 22: entry

    static void promise22_eachNumber() {
        ExchangeFamilies x = over(6);
        int before = 0;
        for (int v = 0; v <= 6; v++) {
            due("what it was", x.entry(4, 5, v), before);
            due("4, 5", x.entryOf(4, 5), v);
            due("5, 4", x.entryOf(5, 4), (7 - v) % 7);
            before = v;
        }
    }

    static void promise22_turnedPlaces() {
        ExchangeFamilies x = over(4);
        x.entry(0, 3, 2);
        due("what 3, 0 was", x.entry(3, 0, 1), 5);
        due("what 0, 3 was", x.entry(0, 3, 0), 6);
        due("3, 0 is 0 with it", x.entryOf(3, 0), 0);
        due("none is left", x.count(3), 0);
    }

    static void promise22_otherEntriesStay() {
        ExchangeFamilies x = table(3, 1, 2, 3);
        x.entry(0, 2, 6);
        due("0, 1", x.entryOf(0, 1), 1);
        due("1, 2", x.entryOf(1, 2), 3);
        due("0, 2", x.entryOf(0, 2), 6);
        due("entries", x.count(3), 6);
    }

    static void promise22_vOutside() {
        for (int v : around(0, 6)) {
            changesNothing("v " + v, BAD, x -> x.entry(0, 1, v));
        }
        changesNothing("-7", BAD, x -> x.entry(0, 1, -7));
    }

    static void promise22_pointsAreNone() {
        for (int point : notPoints(5)) {
            changesNothing("i " + point, BAD, x -> x.entry(point, 0, 1));
            changesNothing("j " + point, BAD, x -> x.entry(0, point, 1));
            changesNothing("both " + point, BAD, x -> x.entry(point, point, 0));
        }
    }

    static void promise22_iIsJ() {
        for (int i = 0; i < 5; i++) {
            int point = i;
            changesNothing("0 at " + i, BAD, x -> x.entry(point, point, 0));
            changesNothing("3 at " + i, BAD, x -> x.entry(point, point, 3));
        }
    }

    // ---- 23: entryOf

    static void promise23_each() {
        ExchangeFamilies x = table(3, 1, 2, 6);
        int[][] want = {{0, 1, 2}, {6, 0, 6}, {5, 1, 0}};
        for (int i = 0; i < 3; i++) {
            for (int j = 0; j < 3; j++) {
                due(i + ", " + j, x.entryOf(i, j), want[i][j]);
            }
        }
    }

    static void promise23_pointsAreNone() {
        for (int point : notPoints(5)) {
            changesNothing("i " + point, BAD, x -> x.entryOf(point, 0));
            changesNothing("j " + point, BAD, x -> x.entryOf(0, point));
            changesNothing("both " + point, BAD, x -> x.entryOf(point, point));
        }
        for (int n = 1; n <= 6; n++) {
            due("the last of " + n, over(n).entryOf(n - 1, n - 1), 0);
            due("past the last of " + n, over(n).entryOf(n, n), BAD);
        }
    }

    static void promise23_changesNothing() {
        changesNothing("entryOf", 5, x -> x.entryOf(1, 0));
    }

    // ---- 24: whole

    static void promise24_ofNone() {
        for (int n = 1; n <= 6; n++) {
            due(n + " points", over(n).whole(0), 1);
        }
        due("a full table", table(3, 1, 2, 3).whole(0), 1);
    }

    static void promise24_oddSets() {
        ExchangeFamilies x = table(6, 1, 2, 3, 4, 5, 6, 1, 2, 3, 4, 5, 6, 1, 2, 3);
        for (int set = 0; set < 64; set++) {
            if (Integer.bitCount(set) % 2 == 1) {
                due("set " + set, x.whole(set), 0);
            }
        }
    }

    static void promise24_twoPoints() {
        int[] squares = {0, 1, 4, 2, 2, 4, 1};
        for (int v = 0; v <= 6; v++) {
            due("of " + v, table(2, v).whole(3), squares[v]);
            ExchangeFamilies x = over(6);
            x.entry(5, 2, v);
            due("of " + v + " at 5, 2", x.whole(36), squares[v]);
        }
    }

    static void promise24_fourPoints() {
        // 01 23 less 02 13 and 03 12, squared
        due("6 less 6", table(4, 3, 1, 0, 0, 6, 2).whole(15), 0);
        due("6 less 6 and 5", table(4, 3, 1, 1, 5, 6, 2).whole(15), 4);
        due("one pair is not enough", table(4, 3, 0, 0, 0, 0, 0).whole(15), 0);
        due("the middle ones", table(4, 0, 0, 3, 3, 0, 0).whole(15), 4);
    }

    static void promise24_sixPoints() {
        // the square of 3 times 2 times 3, 18, that is 4
        ExchangeFamilies x = over(6);
        x.entry(0, 1, 3);
        x.entry(2, 3, 2);
        x.entry(4, 5, 3);
        due("three pairs", x.whole(63), 2);
        due("two of them", x.whole(15), 1);
        due("the last", x.whole(48), 2);
    }

    /** The sum over all ways of naming columns for rows, each with its sign. */
    private static int determinant(int[][] a, int[] points, int row, int used) {
        if (row == points.length) {
            return 1;
        }
        int sum = 0;
        for (int c = 0; c < points.length; c++) {
            if ((used >> c & 1) == 0) {
                int sign = Integer.bitCount(used >> c) % 2 == 0 ? 1 : -1;
                sum += sign * a[points[row]][points[c]] * determinant(a, points, row + 1, used | 1 << c);
            }
        }
        return Math.floorMod(sum, 7);
    }

    static void promise24_isTheDeterminant() {
        Random random = new Random(24);
        for (int run = 0; run < 40; run++) {
            int n = 1 + run % 6;
            int[] entries = new int[15];
            for (int i = 0; i < 15; i++) {
                entries[i] = random.nextInt(3) == 0 ? 0 : random.nextInt(7);
            }
            ExchangeFamilies x = table(n, entries);
            int[][] a = entriesOf(x);
            for (int set = 0; set < 1 << n; set++) {
                int inSet = set;
                int[] points = java.util.stream.IntStream.range(0, n).filter(p -> (inSet >> p & 1) != 0).toArray();
                due("set " + set, x.whole(set), determinant(a, points, 0, 0));
            }
        }
    }

    static void promise24_setIsNone() {
        for (int set : notSets(5)) {
            changesNothing("set " + set, BAD, x -> x.whole(set));
        }
        for (int n = 1; n <= 6; n++) {
            due("too large for " + n, over(n).whole(1 << n), BAD);
        }
    }

    static void promise24_changesNothing() {
        changesNothing("whole", 4, x -> x.whole(3));
        changesNothing("whole of 0", 0, x -> x.whole(31));
        changesNothing("of none", 1, x -> x.whole(0));
    }

    // ---- 25: pivot

    static void promise25_byNone() {
        changesNothing("busy", 6, x -> x.pivot(0));
        for (int n = 1; n <= 6; n++) {
            due("a table of zeros", over(n).pivot(0), 0);
        }
    }

    static void promise25_twoPoints() {
        ExchangeFamilies x = table(3, 2, 3, 5);
        due("entries", x.pivot(3), 6);
        // the inverse of 2 is 4: 0, 1 is -4; 0, 2 is 5 times 4; 1, 2 is -3 times 4
        int[][] want = {{0, 3, 6}, {4, 0, 2}, {1, 5, 0}};
        for (int i = 0; i < 3; i++) {
            for (int j = 0; j < 3; j++) {
                due(i + ", " + j, x.entryOf(i, j), want[i][j]);
            }
        }
    }

    static void promise25_twiceIsBack() {
        ExchangeFamilies x = table(4, 3, 1, 1, 5, 6, 2);
        int[][] before = entriesOf(x);
        x.pivot(15);
        due("entries", x.pivot(15), 12);
        for (int i = 0; i < 4; i++) {
            for (int j = 0; j < 4; j++) {
                due(i + ", " + j, x.entryOf(i, j), before[i][j]);
            }
        }
    }

    static void promise25_entriesComeAndGo() {
        ExchangeFamilies x = table(4, 1, 1, 0, 0, 1, 0);
        due("three pairs become four", x.pivot(3), 8);
        due("2, 3 has come", x.entryOf(2, 3), 6);
        due("0, 2 has gone", x.entryOf(0, 2), 0);
        due("as count tells", x.count(3), 8);
    }

    /** For all y: z of the points of the set and y change places, and the new table makes the new z. */
    private static void placesChange(int[][] before, int[][] after, int set) {
        int n = before.length;
        int all = 1;
        for (int i = 0; i < n; i++) {
            all *= 7;
        }
        int misses = 0;
        for (int code = 0; code < all; code++) {
            int[] y = new int[n];
            int left = code;
            for (int i = 0; i < n; i++) {
                y[i] = left % 7;
                left /= 7;
            }
            int[] z = times(before, y);
            for (int i = 0; i < n; i++) {
                if ((set >> i & 1) != 0) {
                    int moved = y[i];
                    y[i] = z[i];
                    z[i] = moved;
                }
            }
            misses += java.util.Arrays.equals(times(after, y), z) ? 0 : 1;
        }
        due("misses by set " + set, misses, 0);
    }

    private static int[] times(int[][] table, int[] y) {
        int[] z = new int[y.length];
        for (int i = 0; i < y.length; i++) {
            for (int j = 0; j < y.length; j++) {
                z[i] += table[i][j] * y[j];
            }
            z[i] %= 7;
        }
        return z;
    }

    static void promise25_placesChangeForAllNumbers() {
        Random random = new Random(25);
        for (int run = 0; run < 24; run++) {
            int n = 2 + run % 3;
            int[] entries = new int[15];
            for (int i = 0; i < 15; i++) {
                entries[i] = random.nextInt(7);
            }
            for (int set = 0; set < 1 << n; set++) {
                ExchangeFamilies x = table(n, entries);
                int[][] before = entriesOf(x);
                if (x.whole(set) == 0) {
                    due("set " + set, x.pivot(set), STATE);
                } else {
                    x.pivot(set);
                    placesChange(before, entriesOf(x), set);
                }
            }
        }
    }

    static void promise25_sixPoints() {
        ExchangeFamilies x = table(6, 1, 2, 3, 4, 5, 6, 1, 2, 3, 4, 5, 6, 1, 2, 3);
        int[][] before = entriesOf(x);
        int whole = x.whole(63);
        due("it can be", whole != 0 ? 1 : 0, 1);
        x.pivot(63);
        int[][] after = entriesOf(x);
        // the new table is the inverse of the old
        for (int i = 0; i < 6; i++) {
            int[] column = new int[6];
            for (int k = 0; k < 6; k++) {
                column[k] = after[k][i];
            }
            int[] product = times(before, column);
            for (int k = 0; k < 6; k++) {
                due(k + ", " + i, product[k], k == i ? 1 : 0);
            }
        }
    }

    static void promise25_itTurnsItsSign() {
        ExchangeFamilies x = table(5, 1, 2, 3, 4, 5, 6, 1, 2, 3, 4);
        x.pivot(3);
        for (int i = 0; i < 5; i++) {
            due(i + ", " + i, x.entryOf(i, i), 0);
            for (int j = 0; j < 5; j++) {
                due(i + ", " + j, (x.entryOf(i, j) + x.entryOf(j, i)) % 7, 0);
            }
        }
    }

    static void promise25_wholeIsZero() {
        changesNothing("one point", STATE, x -> x.pivot(1));
        changesNothing("three points", STATE, x -> x.pivot(7));
        changesNothing("two points of entry 0", STATE, x -> x.pivot(5));
        changesNothing("four points", STATE, () -> table(4, 3, 1, 0, 0, 6, 2), x -> x.pivot(15));
        changesNothing("all five", STATE, x -> x.pivot(31));
        due("the only point", over(1).pivot(1), STATE);
    }

    static void promise25_setIsNone() {
        for (int set : notSets(5)) {
            changesNothing("set " + set, BAD, x -> x.pivot(set));
        }
        for (int n = 1; n <= 6; n++) {
            due("too large for " + n, over(n).pivot(1 << n), BAD);
        }
    }

    static void promise25_familiesStay() {
        ExchangeFamilies x = table(4, 1, 1, 0, 0, 1, 0);
        due("tabled", x.tabled(0), 5);
        x.pivot(3);
        members(x, 0, 0, 3, 5, 10, 15);
        x.tabled(1);
        due("the new table's is the old one's, twisted", x.same(0, 1, 1), 3);
    }

    public static void main(String[] args) throws IllegalAccessException {
        runAll(TableTest.class, 22, 25);
    }
}
