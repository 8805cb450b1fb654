import java.util.Random;

/** Two families: promises 26 to 28. */
public final class TwoFamiliesTest extends Promises {
    /** Family 0 of these sets, family 1 of those. */
    private static ExchangeFamilies two(int n, int[] first, int... second) {
        ExchangeFamilies x = told(n, first);
        tell(x, 1, second);
        return x;
    }

    private static int[] sets(int... sets) {
        return sets;
    }

    private static int power(int n) {
        int power = 1;
        for (int i = 0; i < n; i++) {
            power *= 3;
        }
        return power;
    }

    private static void jumpsAre(ExchangeFamilies x, int many, int sprung, int least, int greatest) {
        due("how many", x.jumps(0, 1, 0), many);
        due("sprung", x.jumps(0, 1, 1), sprung);
        due("least", x.jumps(0, 1, 2), least);
        due("greatest", x.jumps(0, 1, 3), greatest);
        due("how many, turned", x.jumps(1, 0, 0), many);
        due("sprung, turned", x.jumps(1, 0, 1), sprung);
        due("least, turned", x.jumps(1, 0, 2), least);
        due("greatest, turned", x.jumps(1, 0, 3), greatest);
    }

    // ---- 26: jumps

    static void promise26_some() {
        // 0 and 1: 1; 0 and 6: 12; 3 and 1: 5; 3 and 6: 16
        jumpsAre(two(3, sets(0, 3), 1, 6), 4, 0, 1, 16);
    }

    static void promise26_likeOnesCountOnce() {
        // 1 and 2, 2 and 1 are both the row 4
        jumpsAre(two(2, sets(1, 2), 1, 2), 3, 1, 2, 6);
    }

    static void promise26_leastAndGreatest() {
        // 1 and 3: 5; 1 and 4: 10; 6 and 3: 16; 6 and 4: 21
        jumpsAre(two(3, sets(1, 6), 3, 4), 4, 0, 5, 21);
        // 2 and 1: 4; 2 and 2: 6
        jumpsAre(two(2, sets(2), 1, 2), 2, 1, 4, 6);
    }

    static void promise26_noMembers() {
        for (int n = 1; n <= 6; n++) {
            jumpsAre(two(n, sets()), 0, 0, NONE, NONE);
            jumpsAre(two(n, sets(0, 1)), 0, 0, NONE, NONE);
            due("of itself", told(n).jumps(0, 0, 1), 0);
        }
    }

    static void promise26_oneRow() {
        jumpsAre(two(6, sets(0), 0), 1, 1, 0, 0);
        jumpsAre(two(6, sets(63), 63), 1, 1, 728, 728);
        jumpsAre(two(6, sets(63), 0), 1, 1, 364, 364);
        jumpsAre(two(6, sets(32), 32), 1, 1, 486, 486);
        jumpsAre(two(1, sets(1), 1), 1, 1, 2, 2);
    }

    static void promise26_allSets() {
        for (int n = 1; n <= 6; n++) {
            ExchangeFamilies x = allSets(n);
            x.twist(0, 0, 1);
            jumpsAre(x, power(n), 1, 0, power(n) - 1);
            due("of itself", x.jumps(0, 0, 0), power(n));
        }
    }

    static void promise26_allSetsWithOne() {
        for (int set = 0; set < 64; set++) {
            ExchangeFamilies x = allSets(6);
            tell(x, 1, set);
            due("how many with " + set, x.jumps(0, 1, 0), 64);
            due("sprung with " + set, x.jumps(0, 1, 1), 1);
        }
    }

    static void promise26_sprungByTwoSteps() {
        // 0 0, 1 1, 2 2: each first step lands beside, the second on one
        due("0, 4, 8", told(2, 0, 3).jumps(0, 0, 1), 1);
        // 2 0, 1 1, 0 2
        due("2, 4, 6", told(2, 1, 2).jumps(0, 0, 1), 1);
        due("1 and 4", two(2, sets(0, 2), 1).jumps(0, 1, 1), 1);
    }

    static void promise26_notSprung() {
        due("three points apart", two(3, sets(0, 7), 0).jumps(0, 1, 1), 0);
        due("the last three points", two(6, sets(0, 56), 0).jumps(0, 1, 1), 0);
        due("three points apart, twice", told(3, 0, 7).jumps(0, 0, 1), 0);
    }

    static void promise26_onlyTowardTheLeastOrTheGreatest() {
        // 1 1 1 toward 0 0 0 by point 0 is the only step that ends
        due("the least", two(3, sets(0, 3, 5, 7), 0).jumps(0, 1, 1), 0);
        // 1 1 1 toward 2 2 2 by point 0 is the only one
        due("the greatest", two(3, sets(0, 2, 4, 7), 7).jumps(0, 1, 1), 0);
        // 1 1 2, 2 0 1, 2 0 2: each way ends
        due("up and down", two(3, sets(1, 5, 6), 5).jumps(0, 1, 1), 0);
    }

    static void promise26_othersBeforeLeaveNothing() {
        ExchangeFamilies x = allSets(6);
        tell(x, 1, 5);
        tell(x, 2);
        due("all", x.jumps(0, 0, 0), 729);
        due("one", x.jumps(1, 1, 0), 1);
        due("the least", x.jumps(1, 1, 2), 20);
        due("the greatest", x.jumps(1, 1, 3), 20);
        due("all are sprung", x.jumps(0, 0, 1), 1);
        due("none is not", x.jumps(2, 0, 1), 0);
        due("none is the greatest", x.jumps(0, 2, 3), NONE);
    }

    static void promise26_eachWithEach() {
        for (int f = 0; f < 6; f++) {
            for (int g = 0; g < 6; g++) {
                ExchangeFamilies x = toldAt(f, 3, 1, 4);
                due(f + " with " + g, x.jumps(f, g, 0), f == g ? 3 : 0);
                tell(x, g, 2);
                due(f + " with " + g + " of one", x.jumps(f, g, 3), f == g ? 6 : 12);
            }
        }
    }

    static void promise26_sprungAsItsWordsSay() {
        Random random = new Random(26);
        for (int run = 0; run < 200; run++) {
            int n = 2 + run % 3;
            ExchangeFamilies x = over(n);
            for (int f = 0; f < 2; f++) {
                x.sized(f, 0, random.nextInt(n + 1));
                for (int changes = random.nextInt(3); changes > 0; changes--) {
                    x.tell(f, random.nextInt(1 << n), random.nextInt(2));
                }
            }
            boolean[] is = new boolean[power(n)];
            for (int row = 0; row < is.length; row++) {
                is[row] = x.jump(0, 1, row) == 1;
            }
            due("run " + run, x.jumps(0, 1, 1), sprung(is, n) ? 1 : 0);
        }
    }

    private static int digit(int row, int point) {
        return row / power(point) % 3;
    }

    private static int step(int row, int toward, int point) {
        return row + power(point) * Integer.compare(digit(toward, point), digit(row, point));
    }

    private static boolean sprung(boolean[] is, int n) {
        boolean any = false;
        for (int a = 0; a < is.length; a++) {
            for (int b = 0; is[a] && b < is.length; b++) {
                any = true;
                for (int point = 0; is[b] && point < n; point++) {
                    int next = step(a, b, point);
                    boolean goesOn = is[next];
                    for (int second = 0; second < n; second++) {
                        goesOn |= is[step(next, b, second)];
                    }
                    if (next != a && !goesOn) {
                        return false;
                    }
                }
            }
        }
        return any;
    }

    static void promise26_numbersAreNone() {
        for (int f : notFamilies()) {
            changesNothing("f " + f, BAD, x -> x.jumps(f, 0, 0));
            changesNothing("g " + f, BAD, x -> x.jumps(0, f, 0));
            changesNothing("f " + f + " before missing", BAD, x -> x.jumps(f, NO_FAMILY, 0));
            changesNothing("g " + f + " before missing", BAD, x -> x.jumps(NO_FAMILY, f, 0));
        }
        for (int what : around(0, 3)) {
            changesNothing("what " + what, BAD, x -> x.jumps(0, 1, what));
            changesNothing("what " + what + " before missing", BAD, x -> x.jumps(NO_FAMILY, 1, what));
        }
    }

    static void promise26_missing() {
        for (int what = 0; what < 4; what++) {
            int asked = what;
            changesNothing("f", MISSING, x -> x.jumps(NO_FAMILY, 0, asked));
            changesNothing("g", MISSING, x -> x.jumps(0, NO_FAMILY, asked));
            changesNothing("both", MISSING, x -> x.jumps(NO_FAMILY, NO_FAMILY, asked));
        }
    }

    static void promise26_changesNothing() {
        // 0, 3, 17 with 0, 3, 24, 27: two of twelve come twice
        changesNothing("how many", 10, x -> x.jumps(0, 3, 0));
        changesNothing("least", 0, x -> x.jumps(0, 3, 2));
        changesNothing("none", NONE, x -> x.jumps(0, 2, 3));
    }

    // ---- 27: jump

    static void promise27_eachRow() {
        ExchangeFamilies x = two(3, sets(0, 3), 1, 6);
        for (int row = 0; row < 27; row++) {
            boolean is = row == 1 || row == 12 || row == 5 || row == 16;
            due("row " + row, x.jump(0, 1, row), is ? 1 : 0);
            due("row " + row + ", turned", x.jump(1, 0, row), is ? 1 : 0);
        }
    }

    static void promise27_leastAndGreatestRow() {
        for (int n = 1; n <= 6; n++) {
            ExchangeFamilies x = allSets(n);
            due("the least", x.jump(0, 0, 0), 1);
            due("the greatest", x.jump(0, 0, power(n) - 1), 1);
            due("one more", x.jump(0, 0, power(n)), BAD);
            due("one below", x.jump(0, 0, -1), BAD);
        }
    }

    static void promise27_noMembersAndAllSets() {
        ExchangeFamilies x = allSets(6);
        tell(x, 1);
        for (int row = 0; row < 729; row += 3) {
            due("all, row " + row, x.jump(0, 0, row), 1);
        }
        x = allSets(6);
        tell(x, 1);
        for (int row = 0; row < 729; row += 3) {
            due("none, row " + row, x.jump(0, 1, row), 0);
        }
    }

    static void promise27_pointByPoint() {
        for (int point = 0; point < 6; point++) {
            ExchangeFamilies x = two(6, sets(1 << point), 0, 1 << point);
            due("1 at " + point, x.jump(0, 1, power(point)), 1);
            due("2 at " + point, x.jump(0, 1, 2 * power(point)), 1);
            due("0", x.jump(0, 1, 0), 0);
            due("how many", x.jumps(0, 1, 0), 2);
        }
    }

    static void promise27_eachWithEach() {
        for (int f = 0; f < 6; f++) {
            for (int g = 0; g < 6; g++) {
                ExchangeFamilies x = toldAt(f, 3, 1);
                tell(x, g, 2);
                due(f + " with " + g, x.jump(f, g, 4), f == g ? 0 : 1);
                due("2 of one", x.jump(f, g, 6), f == g ? 1 : 0);
            }
        }
    }

    static void promise27_othersBeforeLeaveNothing() {
        ExchangeFamilies x = allSets(6);
        tell(x, 1, 5);
        due("all", x.jump(0, 0, 19), 1);
        due("one", x.jump(1, 1, 20), 1);
        due("not", x.jump(1, 1, 19), 0);
    }

    static void promise27_rowIsNone() {
        for (int row : new int[] {-1, 243, LEAST, MOST, 728, 729}) {
            changesNothing("row " + row, BAD, x -> x.jump(0, 1, row));
            changesNothing("row " + row + " before missing", BAD, x -> x.jump(NO_FAMILY, 1, row));
        }
    }

    static void promise27_familiesAreNone() {
        for (int f : notFamilies()) {
            changesNothing("f " + f, BAD, x -> x.jump(f, 0, 0));
            changesNothing("g " + f, BAD, x -> x.jump(0, f, 0));
            changesNothing("f " + f + " before missing", BAD, x -> x.jump(f, NO_FAMILY, 0));
            changesNothing("g " + f + " before missing", BAD, x -> x.jump(NO_FAMILY, f, 0));
        }
    }

    static void promise27_missing() {
        changesNothing("f", MISSING, x -> x.jump(NO_FAMILY, 0, 0));
        changesNothing("g", MISSING, x -> x.jump(0, NO_FAMILY, 0));
        changesNothing("both", MISSING, x -> x.jump(NO_FAMILY, NO_FAMILY, 242));
    }

    static void promise27_changesNothing() {
        changesNothing("one", 1, x -> x.jump(0, 3, 8));
        changesNothing("none", 0, x -> x.jump(0, 3, 242));
    }

    // ---- 28: same

    static void promise28_sameMembers() {
        ExchangeFamilies x = two(3, sets(1, 3), 1, 3);
        due("the same", x.same(0, 1, 0), 1);
        x.twist(0, 0, 2);
        due("of another kind", x.same(0, 2, 0), 1);
        x.tell(1, 7, 1);
        due("one more", x.same(0, 1, 0), 0);
        due("one fewer", x.same(1, 0, 0), 0);
        due("itself", x.same(0, 0, 0), 1);
    }

    static void promise28_sameButForTheLastSet() {
        ExchangeFamilies x = two(6, sets(0), 0, 63);
        due("not", x.same(0, 1, 0), 0);
        x.tell(1, 63, 0);
        due("then", x.same(0, 1, 0), 1);
    }

    static void promise28_leastTwist() {
        due("5", two(3, sets(1, 3), 4, 6).same(0, 1, 1), 5);
        due("5 of 5 and 7", two(3, sets(1, 3), 4, 6).same(1, 0, 1), 5);
        due("by none", two(3, sets(1, 3), 1, 3).same(0, 1, 1), 0);
        due("by all", two(6, sets(0), 63).same(0, 1, 1), 63);
        due("the least of two", two(6, sets(0, 63), 1, 62).same(0, 1, 1), 1);
    }

    static void promise28_noTwist() {
        due("more members", two(3, sets(1, 3), 1, 2, 3).same(0, 1, 1), NONE);
        due("as many", two(3, sets(1, 3), 1, 2).same(0, 1, 1), NONE);
    }

    static void promise28_alike() {
        due("renamed", two(3, sets(1, 3), 4, 6).same(0, 1, 2), 1);
        due("a chain", two(4, sets(1, 3, 7), 8, 10, 11).same(0, 1, 2), 1);
        due("a fork is no chain", two(4, sets(1, 3, 7), 8, 10, 12).same(0, 1, 2), 0);
        due("other sizes", two(3, sets(1, 3), 1, 2).same(0, 1, 2), 0);
        due("a twisted one need not be", two(3, sets(0), 1).same(0, 1, 2), 0);
    }

    static void promise28_alikeByEachTwoPoints() {
        for (int i = 0; i < 6; i++) {
            for (int j = 0; j < 6; j++) {
                due(i + " for " + j, two(6, sets(1 << i), 1 << j).same(0, 1, 2), 1);
            }
        }
    }

    static void promise28_alikeByARoundOfAllPoints() {
        // a path 0 1 2 3 4 5, and each point named as the next but one
        int[] path = {3, 6, 12, 24, 48, 1};
        int[] name = {2, 3, 4, 5, 0, 1};
        int[] renamed = new int[path.length];
        for (int k = 0; k < path.length; k++) {
            for (int point = 0; point < 6; point++) {
                renamed[k] |= (path[k] >> point & 1) << name[point];
            }
        }
        due("renamed", two(6, path, renamed).same(0, 1, 2), 1);
        due("and back", two(6, renamed, path).same(0, 1, 2), 1);
        // two rounds of three are no round of six
        due("not", two(6, sets(3, 6, 5, 24, 48, 40), 3, 6, 12, 24, 48, 33).same(0, 1, 2), 0);
    }

    static void promise28_noMembers() {
        for (int n = 1; n <= 6; n++) {
            ExchangeFamilies x = two(n, sets());
            due("the same", x.same(0, 1, 0), 1);
            due("twisted by none", x.same(0, 1, 1), 0);
            due("alike", x.same(0, 1, 2), 1);
            x.tell(1, 0, 1);
            due("not the same", x.same(0, 1, 0), 0);
            due("no twist", x.same(0, 1, 1), NONE);
            due("not alike", x.same(0, 1, 2), 0);
        }
    }

    static void promise28_allSets() {
        for (int n = 1; n <= 6; n++) {
            ExchangeFamilies x = allSets(n);
            x.sized(1, 0, n);
            due("the same", x.same(0, 1, 0), 1);
            due("twisted by none", x.same(0, 1, 1), 0);
            due("alike", x.same(0, 1, 2), 1);
            x.tell(1, (1 << n) - 1, 0);
            due("not the same", x.same(0, 1, 0), 0);
            due("no twist", x.same(0, 1, 1), NONE);
            due("not alike", x.same(0, 1, 2), 0);
        }
    }

    static void promise28_eachWithEach() {
        for (int f = 0; f < 6; f++) {
            for (int g = 0; g < 6; g++) {
                ExchangeFamilies x = toldAt(f, 3, 1);
                tell(x, g, 4);
                due(f + " and " + g, x.same(f, g, 0), f == g ? 1 : 0);
                due(f + " and " + g + ", twisted", x.same(f, g, 1), f == g ? 0 : 5);
                due(f + " and " + g + ", alike", x.same(f, g, 2), 1);
            }
        }
    }

    static void promise28_numbersAreNone() {
        for (int f : notFamilies()) {
            changesNothing("f " + f, BAD, x -> x.same(f, 0, 0));
            changesNothing("g " + f, BAD, x -> x.same(0, f, 0));
            changesNothing("f " + f + " before missing", BAD, x -> x.same(f, NO_FAMILY, 0));
            changesNothing("g " + f + " before missing", BAD, x -> x.same(NO_FAMILY, f, 0));
        }
        for (int way : around(0, 2)) {
            changesNothing("way " + way, BAD, x -> x.same(0, 1, way));
            changesNothing("way " + way + " before missing", BAD, x -> x.same(NO_FAMILY, 1, way));
        }
    }

    static void promise28_missing() {
        for (int way = 0; way < 3; way++) {
            int asked = way;
            changesNothing("f", MISSING, x -> x.same(NO_FAMILY, 0, asked));
            changesNothing("g", MISSING, x -> x.same(0, NO_FAMILY, asked));
            changesNothing("the same one", MISSING, x -> x.same(NO_FAMILY, NO_FAMILY, asked));
        }
    }

    static void promise28_changesNothing() {
        changesNothing("the same", 0, x -> x.same(0, 4, 0));
        changesNothing("twisted", 31, x -> x.same(0, 4, 1));
        changesNothing("alike", 0, x -> x.same(0, 4, 2));
    }

    public static void main(String[] args) throws IllegalAccessException {
        runAll(TwoFamiliesTest.class, 26, 28);
    }
}
