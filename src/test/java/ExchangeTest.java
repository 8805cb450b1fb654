/** Exchange: promises 14 to 17. */
public final class ExchangeTest extends Promises {
    // ---- 14: fails

    private static void failsAt(ExchangeFamilies x, int first, int second, int point) {
        due("x", x.fails(0, 0), first);
        due("y", x.fails(0, 1), second);
        due("u", x.fails(0, 2), point);
    }

    static void promise14_firstX() {
        failsAt(told(6, 0, 63), 0, 63, 0);
        failsAt(told(6, 1, 62), 1, 62, 0);
        // from 3 there are 5 and 9, but no way down toward 24
        failsAt(told(5, 3, 5, 9, 24), 3, 24, 0);
    }

    static void promise14_xIsNotAlwaysTheLeast() {
        // from 0 each point goes alone; from 1 toward 15 point 1 would make 3, 7 or 11
        failsAt(told(4, 0, 1, 2, 4, 8, 15), 1, 15, 1);
    }

    static void promise14_yMayBeBelowX() {
        // 0, 3 and 6 find to all; from 7 toward 0 point 1 would make 5, 4 or 1
        failsAt(told(4, 0, 3, 6, 7), 7, 0, 1);
        failsAt(told(4, 11, 12, 13, 14), 12, 11, 2);
    }

    static void promise14_firstY() {
        // from 1 toward 2 the points 0 and 1 are partners; toward 14 point 2 has none
        failsAt(told(4, 1, 2, 14), 1, 14, 2);
    }

    static void promise14_firstU() {
        // from 0 toward 7 points 0 and 1 have each other, 2 has none
        failsAt(told(3, 0, 3, 7), 0, 7, 2);
        // from 0 toward 14 point 1 goes alone, 2 and 3 have none
        failsAt(told(4, 0, 2, 14), 0, 14, 2);
    }

    static void promise14_theLastPoint() {
        // from 0 toward 63 all but the last point have a partner
        failsAt(told(6, 0, 1, 2, 4, 8, 16, 63), 0, 63, 5);
    }

    static void promise14_onlyTheFirstPoint() {
        // from 0 toward 7 points 1 and 2 have each other, 0 has none
        failsAt(told(3, 0, 6, 7), 0, 7, 0);
    }

    static void promise14_eachFamily() {
        for (int f = 0; f < 6; f++) {
            ExchangeFamilies x = toldAt(f, 3, 1, 6);
            due("x of " + f, x.fails(f, 0), 1);
            due("y of " + f, x.fails(f, 1), 6);
            due("u of " + f, x.fails(f, 2), 0);
        }
    }

    static void promise14_noneFails() {
        for (int n = 1; n <= 6; n++) {
            for (int what = 0; what < 3; what++) {
                due("all sets", allSets(n).fails(0, what), NONE);
                due("no members", told(n).fails(0, what), NONE);
                due("one member", told(n, 1).fails(0, what), NONE);
            }
        }
    }

    static void promise14_whatIsNone() {
        for (int what : around(0, 2)) {
            changesNothing("what " + what, BAD, x -> x.fails(0, what));
            changesNothing("what " + what + " before missing", BAD, x -> x.fails(NO_FAMILY, what));
        }
    }

    static void promise14_familyIsNone() {
        for (int f : notFamilies()) {
            changesNothing("fails " + f, BAD, x -> x.fails(f, 0));
        }
    }

    static void promise14_missing() {
        for (int what = 0; what < 3; what++) {
            int asked = what;
            changesNothing("fails " + what, MISSING, x -> x.fails(NO_FAMILY, asked));
        }
    }

    static void promise14_changesNothing() {
        changesNothing("none", NONE, x -> x.fails(1, 0));
        int[] want = {0, 31, 0};
        for (int what = 0; what < 3; what++) {
            int asked = what;
            changesNothing("fails " + what, want[what], () -> {
                ExchangeFamilies x = busy();
                tell(x, 0, 0, 31);
                return x;
            }, x -> x.fails(0, asked));
        }
    }

    // ---- 15: partner

    static void promise15_theLeast() {
        ExchangeFamilies x = told(4, 0, 3, 5, 6, 7, 14);
        due("1 of 1 and 2", x.partner(0, 0, 7, 0), 1);
        due("below u", x.partner(0, 0, 7, 2), 0);
        due("between", x.partner(0, 0, 7, 1), 0);
    }

    static void promise15_uItself() {
        ExchangeFamilies x = told(6, 0, 32, 33, 63);
        due("u alone", x.partner(0, 0, 32, 5), 5);
        due("one below it comes first", x.partner(0, 0, 63, 5), 0);
        due("it comes before one above", told(3, 0, 1, 3, 7).partner(0, 0, 7, 0), 0);
    }

    static void promise15_ofTheDifferenceAlone() {
        // from 0 point 3 makes 9 with 0, 10 with 1, 12 with 2
        ExchangeFamilies x = told(4, 0, 9, 10, 12, 14, 15);
        due("0, 1, 2 are of it", x.partner(0, 0, 15, 3), 0);
        due("1, 2 are of it", x.partner(0, 0, 14, 3), 1);
        due("2 is of it", x.partner(0, 0, 12, 3), 2);
        tell(x, 0, 0, 9, 14);
        due("0 is not of it", x.partner(0, 0, 14, 3), NONE);
    }

    static void promise15_eachFamily() {
        for (int f = 0; f < 6; f++) {
            due("family " + f, toldAt(f, 3, 1, 4).partner(f, 1, 4, 0), 2);
        }
    }

    static void promise15_none() {
        ExchangeFamilies x = told(6, 0, 63);
        for (int u = 0; u < 6; u++) {
            due("from 0 by " + u, x.partner(0, 0, 63, u), NONE);
            due("from 63 by " + u, x.partner(0, 63, 0, u), NONE);
        }
    }

    static void promise15_membersAreNone() {
        changesNothing("x", STATE, x -> x.partner(0, 1, 3, 1));
        changesNothing("y", STATE, x -> x.partner(0, 3, 1, 1));
        changesNothing("both", STATE, x -> x.partner(0, 1, 2, 0));
        changesNothing("no members", STATE, x -> x.partner(2, 0, 1, 0));
    }

    static void promise15_uIsNotOfTheDifference() {
        changesNothing("both have it", STATE, x -> x.partner(0, 3, 17, 0));
        changesNothing("neither has it", STATE, x -> x.partner(0, 3, 17, 2));
        for (int u = 0; u < 5; u++) {
            int point = u;
            changesNothing("x is y", STATE, x -> x.partner(0, 3, 3, point));
        }
    }

    static void promise15_numbersAreNone() {
        for (int f : notFamilies()) {
            changesNothing("f " + f, BAD, x -> x.partner(f, 0, 3, 0));
        }
        for (int set : notSets(5)) {
            changesNothing("x " + set, BAD, x -> x.partner(0, set, 3, 0));
            changesNothing("y " + set, BAD, x -> x.partner(0, 3, set, 0));
        }
        for (int u : notPoints(5)) {
            changesNothing("u " + u, BAD, x -> x.partner(0, 0, 3, u));
        }
    }

    static void promise15_badComesFirst() {
        changesNothing("x before missing", BAD, x -> x.partner(NO_FAMILY, 32, 3, 0));
        changesNothing("y before missing", BAD, x -> x.partner(NO_FAMILY, 0, 32, 0));
        changesNothing("u before missing", BAD, x -> x.partner(NO_FAMILY, 0, 3, 5));
        changesNothing("u before no member", BAD, x -> x.partner(0, 1, 2, 5));
        changesNothing("y before no member", BAD, x -> x.partner(0, 1, -1, 0));
    }

    static void promise15_missing() {
        changesNothing("missing", MISSING, x -> x.partner(NO_FAMILY, 0, 3, 0));
        changesNothing("missing before not of the difference", MISSING, x -> x.partner(NO_FAMILY, 3, 3, 0));
    }

    static void promise15_changesNothing() {
        changesNothing("a partner", 1, x -> x.partner(0, 0, 3, 0));
        changesNothing("none", NONE, () -> {
            ExchangeFamilies x = busy();
            tell(x, 0, 0, 31);
            return x;
        }, x -> x.partner(0, 0, 31, 0));
    }

    // ---- 16: near

    static void promise16_leastDifference() {
        ExchangeFamilies x = told(6, 0, 3, 15, 63);
        due("a member", x.near(0, 15), 0);
        due("one off", x.near(0, 7), 1);
        due("two off", x.near(0, 48), 2);
    }

    static void promise16_eachSize() {
        for (int size = 0; size <= 6; size++) {
            due("from 0", told(6, 0).near(0, (1 << size) - 1), size);
            due("from 63", told(6, 63).near(0, (1 << size) - 1), 6 - size);
        }
    }

    static void promise16_eachFamily() {
        for (int f = 0; f < 6; f++) {
            due("family " + f, toldAt(f, 3, 6).near(f, 0), 2);
        }
    }

    static void promise16_noMembersAndAllSets() {
        for (int n = 1; n <= 6; n++) {
            for (int set = 0; set < 1 << n; set++) {
                due("no members", told(n).near(0, set), NONE);
                due("all sets", allSets(n).near(0, set), 0);
            }
        }
    }

    static void promise16_numbersAreNone() {
        for (int f : notFamilies()) {
            changesNothing("f " + f, BAD, x -> x.near(f, 0));
        }
        for (int set : notSets(5)) {
            changesNothing("set " + set, BAD, x -> x.near(0, set));
            changesNothing("set " + set + " before missing", BAD, x -> x.near(NO_FAMILY, set));
        }
    }

    static void promise16_missing() {
        changesNothing("near", MISSING, x -> x.near(NO_FAMILY, 0));
    }

    static void promise16_changesNothing() {
        changesNothing("near", 3, x -> x.near(0, 14));
    }

    // ---- 17: apart

    static void promise17_itself() {
        ExchangeFamilies x = told(6, 0, 63);
        due("0", x.apart(0, 0, 0), 0);
        due("63", x.apart(0, 63, 63), 0);
    }

    static void promise17_oneExchange() {
        due("one point", told(6, 0, 32).apart(0, 0, 32), 1);
        due("two points", told(6, 0, 33).apart(0, 0, 33), 1);
        due("one out, one in", told(6, 1, 32).apart(0, 1, 32), 1);
        due("two points, with the one between", told(6, 0, 1, 3).apart(0, 0, 3), 1);
    }

    static void promise17_threePointsAreNoExchange() {
        due("alone", told(6, 0, 7).apart(0, 0, 7), NONE);
        due("by one between", told(6, 0, 1, 7).apart(0, 0, 7), 2);
    }

    static void promise17_byMembersAlone() {
        due("8 is no way", told(6, 0, 7, 8).apart(0, 0, 7), NONE);
        ExchangeFamilies x = told(6, 0, 3, 15);
        due("by 3", x.apart(0, 0, 15), 2);
        x.tell(0, 3, 0);
        due("no longer", x.apart(0, 0, 15), NONE);
    }

    static void promise17_theFewest() {
        due("two of two ways", told(6, 0, 3, 12, 15, 60).apart(0, 0, 60), 2);
        due("all sets", allSets(6).apart(0, 0, 63), 3);
        due("five points", allSets(5).apart(0, 0, 31), 3);
        due("four points", allSets(4).apart(0, 15, 0), 2);
    }

    static void promise17_eachFamily() {
        for (int f = 0; f < 6; f++) {
            due("family " + f, toldAt(f, 4, 0, 1, 7).apart(f, 7, 0), 2);
        }
    }

    static void promise17_aLongWay() {
        // each is one or two points from the next and more from all others
        int[] way = {0, 1, 7, 14, 26, 56, 52, 54, 51, 43, 45, 29};
        ExchangeFamilies x = told(6, way);
        for (int from = 0; from < way.length; from++) {
            for (int to = 0; to < way.length; to++) {
                due(way[from] + " to " + way[to], x.apart(0, way[from], way[to]), Math.abs(from - to));
            }
        }
    }

    static void promise17_noMembers() {
        changesNothing("x", STATE, x -> x.apart(0, 1, 3));
        changesNothing("y", STATE, x -> x.apart(0, 3, 1));
        changesNothing("the same one", STATE, x -> x.apart(0, 1, 1));
        changesNothing("of none", STATE, x -> x.apart(2, 0, 0));
    }

    static void promise17_numbersAreNone() {
        for (int f : notFamilies()) {
            changesNothing("f " + f, BAD, x -> x.apart(f, 0, 3));
        }
        for (int set : notSets(5)) {
            changesNothing("x " + set, BAD, x -> x.apart(0, set, 3));
            changesNothing("y " + set, BAD, x -> x.apart(0, 3, set));
            changesNothing("y " + set + " before no member", BAD, x -> x.apart(0, 1, set));
            changesNothing("x " + set + " before missing", BAD, x -> x.apart(NO_FAMILY, set, 3));
            changesNothing("y " + set + " before missing", BAD, x -> x.apart(NO_FAMILY, 3, set));
        }
    }

    static void promise17_missing() {
        changesNothing("apart", MISSING, x -> x.apart(NO_FAMILY, 0, 0));
    }

    static void promise17_changesNothing() {
        changesNothing("apart", 1, x -> x.apart(0, 3, 17));
    }

    public static void main(String[] args) throws IllegalAccessException {
        runAll(ExchangeTest.class, 14, 17);
    }
}
