/** Rows: promises 29 to 34. */
public final class RowsTest extends Promises {
    /** The numbers of a row that a call left, as it was made. */
    private static long[] zeros(int n) {
        return new long[n];
    }

    // ---- 29: row

    static void promise29_eachRowOfEachSort() {
        for (int row = 0; row < 4; row++) {
            for (int sort = 0; sort < 4; sort++) {
                ExchangeFamilies x = new ExchangeFamilies();
                due("row " + row + " of sort " + sort, x.row(row, sort, 2), 1);
                due("it is there", x.count(2), 1 << row);
                numbers(x, row, 0, 0);
            }
        }
    }

    static void promise29_noneAndEighty() {
        ExchangeFamilies x = new ExchangeFamilies();
        due("none", x.row(0, 0, 0), 1);
        numbers(x, 0);
        due("it is there", x.count(2), 1);
        due("eighty", x.row(3, 3, 80), 1);
        numbers(x, 3, zeros(80));
        due("79", x.row(3, 3, 79), 1);
        numbers(x, 3, zeros(79));
    }

    static void promise29_allZeroAnew() {
        ExchangeFamilies x = new ExchangeFamilies();
        x.row(0, 2, 80);
        for (int i = 0; i < 80; i++) {
            x.put(0, i, i + 1);
        }
        x.row(0, 2, 80);
        numbers(x, 0, zeros(80));
        fill(x, 1, 3, 7, 8, 9);
        x.row(1, 3, 1);
        x.row(1, 3, 3);
        numbers(x, 1, zeros(3));
        fill(x, 1, 3, 7, 8, 9);
        x.row(1, -1, 0);
        x.row(1, 3, 3);
        numbers(x, 1, zeros(3));
    }

    static void promise29_ofAnotherSort() {
        ExchangeFamilies x = new ExchangeFamilies();
        fill(x, 0, 3, 1L << 40);
        due("bytes then", x.row(0, 0, 1), 1);
        x.put(0, 0, 300);
        numbers(x, 0, 44);
    }

    static void promise29_missing() {
        for (int n : new int[] {0, 80, 81, -1, LEAST, MOST}) {
            ExchangeFamilies x = busy();
            due("missing, n " + n, x.row(0, -1, n), 1);
            due("the others", x.count(2), 6);
            due("get", x.get(0, 0), NO);
            due("put", x.put(0, 0, 1), MISSING);
            changesNothing("missing again, n " + n, 1, y -> y.row(NO_ROW, -1, n));
        }
    }

    static void promise29_rowIsNone() {
        for (int row : notRows()) {
            changesNothing("row " + row, BAD, x -> x.row(row, 0, 1));
            changesNothing("row " + row + ", missing", BAD, x -> x.row(row, -1, 1));
            changesNothing("row " + row + " before a size below 0", BAD, x -> x.row(row, 0, -1));
        }
    }

    static void promise29_sortIsNone() {
        for (int sort : around(-1, 3)) {
            changesNothing("sort " + sort, BAD, x -> x.row(0, sort, 1));
            changesNothing("sort " + sort + " of a missing one", BAD, x -> x.row(NO_ROW, sort, 1));
            changesNothing("sort " + sort + " before a size below 0", BAD, x -> x.row(0, sort, -1));
        }
    }

    static void promise29_tooMany() {
        for (int n : new int[] {81, 82, MOST}) {
            for (int sort = 0; sort < 4; sort++) {
                int of = sort;
                changesNothing("n " + n, BAD, x -> x.row(1, of, n));
            }
            changesNothing("n " + n + " of a missing one", BAD, x -> x.row(NO_ROW, 0, n));
        }
    }

    static void promise29_sizeBelowZero() {
        for (int n : new int[] {-1, -2, LEAST}) {
            for (int sort = 0; sort < 4; sort++) {
                int of = sort;
                changesNothing("n " + n, BELOW_ZERO, x -> x.row(1, of, n));
            }
            changesNothing("n " + n + " of a missing one", BELOW_ZERO, x -> x.row(NO_ROW, 0, n));
        }
    }

    // ---- 30: put

    private static void putAndGet(int sort, long... valuesAndWants) {
        ExchangeFamilies x = new ExchangeFamilies();
        x.row(0, sort, 1);
        for (int k = 0; k < valuesAndWants.length; k += 2) {
            long v = valuesAndWants[k];
            due("put " + v, x.put(0, 0, v), 1);
            due("sort " + sort + ", " + v, x.get(0, 0), valuesAndWants[k + 1]);
        }
    }

    static void promise30_bytes() {
        putAndGet(0, 0, 0, 127, 127, 128, -128, -128, -128, -129, 127, 200, -56, 255, -1, 256, 0, 257, 1, -1, -1,
            Long.MAX_VALUE, -1, Long.MIN_VALUE, 0, 1L << 32, 0, (1L << 40) + 5, 5);
    }

    static void promise30_shorts() {
        putAndGet(1, 0, 0, 32767, 32767, 32768, -32768, -32768, -32768, -32769, 32767, 65535, -1, 65536, 0, 65539, 3,
            200, 200, -1, -1, Long.MAX_VALUE, -1, Long.MIN_VALUE, 0, (1L << 40) + 5, 5);
    }

    static void promise30_ints() {
        putAndGet(2, 0, 0, MOST, MOST, MOST + 1L, LEAST, LEAST, LEAST, LEAST - 1L, MOST, (1L << 32) - 1, -1,
            1L << 32, 0, (1L << 32) + 5, 5, 65539, 65539, -1, -1, Long.MAX_VALUE, -1, Long.MIN_VALUE, 0);
    }

    static void promise30_longs() {
        putAndGet(3, 0, 0, Long.MAX_VALUE, Long.MAX_VALUE, Long.MIN_VALUE + 1, Long.MIN_VALUE + 1, 1L << 32, 1L << 32,
            -1, -1, Long.MIN_VALUE, Long.MIN_VALUE);
    }

    static void promise30_firstAndLastPlace() {
        ExchangeFamilies x = new ExchangeFamilies();
        x.row(2, 3, 80);
        due("the first", x.put(2, 0, 7), 1);
        due("the last", x.put(2, 79, 8), 1);
        long[] want = zeros(80);
        want[0] = 7;
        want[79] = 8;
        numbers(x, 2, want);
    }

    static void promise30_eachRow() {
        for (int row = 0; row < 4; row++) {
            ExchangeFamilies x = new ExchangeFamilies();
            for (int other = 0; other < 4; other++) {
                x.row(other, 1, 2);
            }
            due("row " + row, x.put(row, 1, 9), 1);
            for (int other = 0; other < 4; other++) {
                numbers(x, other, 0, other == row ? 9 : 0);
            }
        }
    }

    static void promise30_placeOutside() {
        for (int i : around(0, 2)) {
            changesNothing("place " + i, OUTSIDE, x -> x.put(0, i, 1));
        }
        for (int i : around(0, 79)) {
            changesNothing("place " + i + " of 80", OUTSIDE, x -> x.put(1, i, 1));
        }
        for (int i : new int[] {0, -1, 1, LEAST, MOST}) {
            changesNothing("place " + i + " of none", OUTSIDE, x -> x.put(2, i, 1));
        }
    }

    static void promise30_rowIsNone() {
        for (int row : notRows()) {
            changesNothing("row " + row, BAD, x -> x.put(row, 0, 1));
            changesNothing("row " + row + " before a place outside", BAD, x -> x.put(row, -1, 1));
        }
    }

    static void promise30_missing() {
        changesNothing("missing", MISSING, x -> x.put(NO_ROW, 0, 1));
        changesNothing("missing before a place outside", MISSING, x -> x.put(NO_ROW, -1, 1));
        changesNothing("missing before a place far outside", MISSING, x -> x.put(NO_ROW, MOST, 1));
    }

    // ---- 31: get

    static void promise31_each() {
        ExchangeFamilies x = busy();
        numbers(x, 0, 5, -1, 100);
        due("the first of 80", x.get(1, 0), Long.MAX_VALUE);
        due("the last of 80", x.get(1, 79), 12);
    }

    static void promise31_noPlace() {
        for (int i : around(0, 2)) {
            changesNothing("place " + i, NO, x -> x.get(0, i));
        }
        for (int i : around(0, 79)) {
            changesNothing("place " + i + " of 80", NO, x -> x.get(1, i));
        }
        for (int i : new int[] {0, -1, LEAST, MOST}) {
            changesNothing("place " + i + " of none", NO, x -> x.get(2, i));
        }
    }

    static void promise31_noRow() {
        for (int row : notRows()) {
            changesNothing("row " + row, NO, x -> x.get(row, 0));
        }
    }

    static void promise31_missing() {
        changesNothing("missing", NO, x -> x.get(NO_ROW, 0));
        changesNothing("missing, outside", NO, x -> x.get(NO_ROW, -1));
    }

    static void promise31_changesNothing() {
        changesNothing("get", 100, x -> x.get(0, 2));
    }

    // ---- 32: copy

    /** Rows 0 (five ints: 1 .. 5) and 1 (three ints: 7 8 9), 2 (five longs); 3 is missing. */
    private static ExchangeFamilies rows() {
        ExchangeFamilies x = busy();
        fill(x, 0, 2, 1, 2, 3, 4, 5);
        fill(x, 1, 2, 7, 8, 9);
        fill(x, 2, 3, 1, 2, 3, 4, 5);
        return x;
    }

    private static void copyRefused(String what, long want, Call call) {
        changesNothing(what, want, RowsTest::rows, call);
    }

    static void promise32_toAnother() {
        ExchangeFamilies x = rows();
        due("two", x.copy(0, 2, 1, 1, 2), 2);
        numbers(x, 1, 7, 3, 4);
        numbers(x, 0, 1, 2, 3, 4, 5);
        due("the last one", x.copy(0, 4, 1, 2, 1), 1);
        numbers(x, 1, 7, 3, 5);
        due("the first one", x.copy(0, 0, 1, 0, 1), 1);
        numbers(x, 1, 1, 3, 5);
    }

    static void promise32_allOfARow() {
        ExchangeFamilies x = rows();
        due("three", x.copy(1, 0, 0, 2, 3), 3);
        numbers(x, 0, 1, 2, 7, 8, 9);
        x.row(2, 3, 80);
        x.row(3, 3, 80);
        x.put(2, 0, Long.MAX_VALUE);
        x.put(2, 79, -5);
        due("eighty", x.copy(2, 0, 3, 0, 80), 80);
        due("the first", x.get(3, 0), Long.MAX_VALUE);
        due("the last", x.get(3, 79), -5);
    }

    static void promise32_upInTheSame() {
        ExchangeFamilies x = rows();
        due("four", x.copy(0, 0, 0, 1, 4), 4);
        numbers(x, 0, 1, 1, 2, 3, 4);
    }

    static void promise32_downInTheSame() {
        ExchangeFamilies x = rows();
        due("four", x.copy(0, 1, 0, 0, 4), 4);
        numbers(x, 0, 2, 3, 4, 5, 5);
    }

    static void promise32_ontoItsOwnPlace() {
        copyRefused("all", 5, x -> x.copy(0, 0, 0, 0, 5));
        copyRefused("one", 1, x -> x.copy(0, 3, 0, 3, 1));
    }

    static void promise32_eachSort() {
        for (int sort = 0; sort < 4; sort++) {
            ExchangeFamilies x = new ExchangeFamilies();
            fill(x, 0, sort, -1, 100);
            x.row(1, sort, 2);
            due("sort " + sort, x.copy(0, 0, 1, 0, 2), 2);
            numbers(x, 1, -1, 100);
        }
    }

    static void promise32_eachToEach() {
        for (int row = 0; row < 4; row++) {
            for (int other = 0; other < 4; other++) {
                ExchangeFamilies x = new ExchangeFamilies();
                for (int at = 0; at < 4; at++) {
                    fill(x, at, 1, at + 1, 0);
                }
                due(row + " to " + other, x.copy(row, 0, other, 1, 1), 1);
                for (int at = 0; at < 4; at++) {
                    numbers(x, at, at + 1, at == other ? row + 1 : 0);
                }
            }
        }
    }

    static void promise32_noNumbers() {
        copyRefused("at the beginnings", 0, x -> x.copy(0, 0, 1, 0, 0));
        copyRefused("inside", 0, x -> x.copy(0, 2, 1, 2, 0));
        copyRefused("at the ends", 0, x -> x.copy(0, 5, 1, 3, 0));
        copyRefused("past the end", OUTSIDE, x -> x.copy(0, 6, 1, 0, 0));
        copyRefused("past the other's end", OUTSIDE, x -> x.copy(0, 0, 1, 4, 0));
        copyRefused("below", OUTSIDE, x -> x.copy(0, -1, 1, 0, 0));
        copyRefused("below in the other", OUTSIDE, x -> x.copy(0, 0, 1, -1, 0));
        changesNothing("of a row of none", 0, x -> x.copy(2, 0, 2, 0, 0));
    }

    static void promise32_placesOutside() {
        copyRefused("one too many", OUTSIDE, x -> x.copy(0, 3, 1, 0, 3));
        copyRefused("one too many in the other", OUTSIDE, x -> x.copy(0, 0, 1, 1, 3));
        copyRefused("one too many in the same", OUTSIDE, x -> x.copy(0, 0, 0, 1, 5));
        copyRefused("more than there are", OUTSIDE, x -> x.copy(0, 0, 0, 0, 6));
        copyRefused("from the end", OUTSIDE, x -> x.copy(0, 5, 1, 0, 1));
        copyRefused("to the end", OUTSIDE, x -> x.copy(0, 0, 1, 3, 1));
        copyRefused("from below", OUTSIDE, x -> x.copy(0, -1, 1, 0, 2));
        copyRefused("to below", OUTSIDE, x -> x.copy(0, 0, 1, -1, 2));
        changesNothing("one of none", OUTSIDE, x -> x.copy(2, 0, 2, 0, 1));
    }

    static void promise32_placesFarOutside() {
        for (int far : new int[] {LEAST, MOST, LEAST + 1, MOST - 1}) {
            copyRefused("i " + far, OUTSIDE, x -> x.copy(0, far, 1, 0, 1));
            copyRefused("j " + far, OUTSIDE, x -> x.copy(0, 0, 1, far, 1));
            copyRefused("n " + far, OUTSIDE, x -> x.copy(0, 0, 1, 0, far));
            copyRefused("n " + far + " from 1", OUTSIDE, x -> x.copy(0, 1, 1, 1, far));
            copyRefused("i and n " + far, OUTSIDE, x -> x.copy(0, far, 1, 0, far));
            copyRefused("j and n " + far, OUTSIDE, x -> x.copy(0, 0, 1, far, far));
            copyRefused("all " + far, OUTSIDE, x -> x.copy(0, far, 1, far, far));
        }
        // as if they came round to 2
        copyRefused("a sum that wraps", OUTSIDE, x -> x.copy(0, MOST, 1, 0, LEAST + 3));
        copyRefused("n that wraps", OUTSIDE, x -> x.copy(0, 3, 1, 0, MOST));
    }

    static void promise32_nBelowZero() {
        copyRefused("inside", OUTSIDE, x -> x.copy(0, 2, 1, 2, -1));
        copyRefused("at the ends", OUTSIDE, x -> x.copy(0, 5, 1, 3, -1));
        copyRefused("in the same", OUTSIDE, x -> x.copy(0, 2, 0, 2, -2));
    }

    static void promise32_unlikeSorts() {
        copyRefused("ints to longs", OTHER, x -> x.copy(0, 0, 2, 0, 1));
        copyRefused("longs to ints", OTHER, x -> x.copy(2, 0, 0, 0, 1));
        copyRefused("no numbers", OTHER, x -> x.copy(0, 0, 2, 0, 0));
        copyRefused("sorts before places", OTHER, x -> x.copy(0, 9, 2, -9, 1));
        copyRefused("sorts before n below 0", OTHER, x -> x.copy(0, 0, 2, 0, -1));
        for (int a = 0; a < 4; a++) {
            for (int b = 0; b < 4; b++) {
                ExchangeFamilies x = new ExchangeFamilies();
                fill(x, 0, a, 1);
                fill(x, 1, b, 2);
                due("sorts " + a + ", " + b, x.copy(0, 0, 1, 0, 1), a == b ? 1 : OTHER);
                numbers(x, 1, a == b ? 1 : 2);
            }
        }
    }

    static void promise32_missing() {
        copyRefused("the first", MISSING, x -> x.copy(NO_ROW, 0, 0, 0, 1));
        copyRefused("the other", MISSING, x -> x.copy(0, 0, NO_ROW, 0, 1));
        copyRefused("both", MISSING, x -> x.copy(NO_ROW, 0, NO_ROW, 0, 1));
        copyRefused("no numbers", MISSING, x -> x.copy(NO_ROW, 0, 0, 0, 0));
        copyRefused("missing before places", MISSING, x -> x.copy(0, -1, NO_ROW, -1, 1));
        copyRefused("missing before n below 0", MISSING, x -> x.copy(NO_ROW, 0, 0, 0, -1));
    }

    static void promise32_rowsAreNone() {
        for (int row : notRows()) {
            copyRefused("row " + row, BAD, x -> x.copy(row, 0, 0, 0, 1));
            copyRefused("other " + row, BAD, x -> x.copy(0, 0, row, 0, 1));
            copyRefused("both " + row, BAD, x -> x.copy(row, 0, row, 0, 1));
            copyRefused("row " + row + " before missing", BAD, x -> x.copy(row, 0, NO_ROW, 0, 1));
            copyRefused("other " + row + " before missing", BAD, x -> x.copy(NO_ROW, 0, row, 0, 1));
            copyRefused("row " + row + " before places", BAD, x -> x.copy(row, -1, 0, 0, -1));
        }
    }

    // ---- 33: lay

    static void promise33_setsOfARow() {
        ExchangeFamilies x = over(4);
        fill(x, 0, 3, 9, 3, 15, 0);
        due("four", x.lay(2, 0), 4);
        members(x, 2, 0, 3, 9, 15);
        due("told", x.of(2, 0), 0);
        numbers(x, 0, 9, 3, 15, 0);
    }

    static void promise33_likeOnesCountOnce() {
        ExchangeFamilies x = over(4);
        fill(x, 0, 0, 9, 9, 3, 9);
        due("two", x.lay(0, 0), 2);
        x.row(1, 2, 80);
        due("eighty zeros", x.lay(0, 1), 1);
        members(x, 0, 0);
    }

    static void promise33_noSetsAreLeftOut() {
        ExchangeFamilies x = over(4);
        fill(x, 0, 3, 16, -1, (1L << 32) + 2, Long.MIN_VALUE, Long.MAX_VALUE, -(1L << 32) + 1, 15, 64, 1L << 63 | 3);
        due("one is a set", x.lay(0, 0), 1);
        members(x, 0, 15);
        fill(x, 1, 0, 200, 255, 256 + 7);
        due("of bytes", x.lay(0, 1), 1);
        members(x, 0, 7);
        fill(x, 1, 2, 1L << 31, 64, -16);
        due("none is", x.lay(0, 1), 0);
    }

    static void promise33_forEachNumberOfPoints() {
        for (int n = 1; n <= 6; n++) {
            ExchangeFamilies x = over(n);
            fill(x, 0, 1, (1 << n) - 1, 1 << n, (1 << n) + 1, -1);
            due(n + " points", x.lay(0, 0), 1);
            members(x, 0, (1 << n) - 1);
        }
    }

    static void promise33_eachOfEach() {
        for (int f = 0; f < 6; f++) {
            for (int row = 0; row < 4; row++) {
                ExchangeFamilies x = over(4);
                fill(x, row, 2, 6, 9);
                due(f + " of " + row, x.lay(f, row), 2);
                members(x, f, 6, 9);
                due("only that", x.count(1), 1 << f);
            }
        }
    }

    static void promise33_rowOfNone() {
        ExchangeFamilies x = busy();
        due("none", x.lay(0, 2), 0);
        members(x, 0);
        due("it is there", x.count(1), 31);
        due("a missing one, too", x.lay(NO_FAMILY, 2), 0);
        due("all are there", x.count(1), 63);
    }

    static void promise33_allSets() {
        ExchangeFamilies x = over(6);
        x.row(0, 0, 80);
        for (int i = 0; i < 80; i++) {
            x.put(0, i, 79 - i);
        }
        due("64 of 80", x.lay(5, 0), 64);
        due("the last", x.has(5, 63), 1);
    }

    static void promise33_overAnother() {
        ExchangeFamilies x = busy();
        due("over a sized one", x.lay(1, 0), 1);
        members(x, 1, 5);
        due("told", x.of(1, 0), 0);
        due("over a dual", x.lay(4, 0), 1);
        due("told, too", x.of(4, 0), 0);
    }

    static void promise33_laterPutsDoNotChangeIt() {
        ExchangeFamilies x = busy();
        x.lay(0, 0);
        x.put(0, 0, 6);
        members(x, 0, 5);
        x.row(0, -1, 0);
        members(x, 0, 5);
    }

    static void promise33_numbersAreNone() {
        for (int f : notFamilies()) {
            changesNothing("f " + f, BAD, x -> x.lay(f, 0));
            changesNothing("f " + f + " before missing", BAD, x -> x.lay(f, NO_ROW));
        }
        for (int row : notRows()) {
            changesNothing("row " + row, BAD, x -> x.lay(0, row));
            changesNothing("row " + row + " of a missing family", BAD, x -> x.lay(NO_FAMILY, row));
        }
    }

    static void promise33_missing() {
        changesNothing("a family that is there", MISSING, x -> x.lay(0, NO_ROW));
        changesNothing("a missing one", MISSING, x -> x.lay(NO_FAMILY, NO_ROW));
    }

    // ---- 34: film

    static void promise34_membersRising() {
        ExchangeFamilies x = busy();
        due("three", x.film(4, NO_ROW, 2), 3);
        numbers(x, NO_ROW, 14, 28, 31);
        due("it is there", x.count(2), 15);
        members(x, 4, 14, 28, 31);
        due("kind", x.of(4, 0), 5);
    }

    static void promise34_eachSort() {
        long[] want = {-17, -12817, -1985229329, 81985529216486895L};
        for (int sort = 0; sort < 4; sort++) {
            ExchangeFamilies x = told(6, 0, 63);
            due("sort " + sort, x.film(0, 3, sort), 2);
            numbers(x, 3, 0, 63);
            x.put(3, 1, 0x123456789ABCDEFL);
            numbers(x, 3, 0, want[sort]);
        }
    }

    static void promise34_noMembers() {
        ExchangeFamilies x = busy();
        due("over one of three", x.film(2, 0, 3), 0);
        numbers(x, 0);
        due("over one of eighty", x.film(2, 1, 3), 0);
        numbers(x, 1);
        due("over a missing one", x.film(2, NO_ROW, 0), 0);
        due("all are there", x.count(2), 15);
        due("of that sort", x.copy(0, 0, 1, 0, 0), 0);
    }

    static void promise34_allSets() {
        for (int sort = 0; sort < 4; sort++) {
            ExchangeFamilies x = allSets(6);
            x.row(0, 3, 80);
            x.put(0, 79, 5);
            due("64", x.film(0, 0, sort), 64);
            long[] want = new long[64];
            for (int i = 0; i < 64; i++) {
                want[i] = i;
            }
            numbers(x, 0, want);
        }
    }

    static void promise34_eachToEach() {
        for (int f = 0; f < 6; f++) {
            for (int row = 0; row < 4; row++) {
                ExchangeFamilies x = toldAt(f, 4, 6, 9);
                due(f + " to " + row, x.film(f, row, 2), 2);
                numbers(x, row, 6, 9);
                due("only that", x.count(2), 1 << row);
            }
        }
    }

    static void promise34_layAndFilm() {
        ExchangeFamilies x = told(6, 1, 40, 63);
        x.film(0, 2, 0);
        due("laid again", x.lay(1, 2), 3);
        due("the same", x.same(0, 1, 0), 1);
    }

    static void promise34_laterTellsDoNotChangeIt() {
        ExchangeFamilies x = told(3, 1, 2);
        x.film(0, 0, 0);
        x.tell(0, 7, 1);
        x.ground(2);
        numbers(x, 0, 1, 2);
    }

    static void promise34_sortIsNone() {
        for (int sort : around(0, 3)) {
            changesNothing("sort " + sort, BAD, x -> x.film(0, 0, sort));
            changesNothing("sort " + sort + " before missing", BAD, x -> x.film(NO_FAMILY, 0, sort));
        }
    }

    static void promise34_familyIsNone() {
        for (int f : notFamilies()) {
            changesNothing("f " + f, BAD, x -> x.film(f, 0, 0));
        }
    }

    static void promise34_rowIsNone() {
        for (int row : notRows()) {
            changesNothing("row " + row, BAD, x -> x.film(0, row, 0));
            changesNothing("row " + row + " before missing", BAD, x -> x.film(NO_FAMILY, row, 0));
        }
    }

    static void promise34_missing() {
        changesNothing("a row that is there", MISSING, x -> x.film(NO_FAMILY, 0, 0));
        changesNothing("a missing row", MISSING, x -> x.film(NO_FAMILY, NO_ROW, 3));
    }

    public static void main(String[] args) throws IllegalAccessException {
        runAll(RowsTest.class, 29, 34);
    }
}
