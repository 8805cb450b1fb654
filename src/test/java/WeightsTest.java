/** Weights: promises 18 to 21. */
public final class WeightsTest extends Promises {
    private static void weigh(ExchangeFamilies x, int... weights) {
        for (int point = 0; point < weights.length; point++) {
            x.weight(point, weights[point]);
        }
    }

    private static int greedOf(ExchangeFamilies x, int... weights) {
        weigh(x, weights);
        return x.greed(0);
    }

    private static int bestOf(ExchangeFamilies x, int... weights) {
        weigh(x, weights);
        return x.best(0);
    }

    // ---- 18: weight

    static void promise18_whatItWas() {
        ExchangeFamilies x = over(6);
        for (int point = 0; point < 6; point++) {
            due("at first", x.weight(point, point + 1), 0);
        }
        for (int point = 0; point < 6; point++) {
            due("then", x.weight(point, 0), point + 1);
        }
    }

    static void promise18_leastAndGreatest() {
        ExchangeFamilies x = over(6);
        for (int v = -99; v <= 99; v++) {
            x.weight(5, v);
            due("weight " + v, x.weighs(32), v);
        }
        due("the greatest", x.weight(5, -99), 99);
        due("the least", x.weight(5, 0), -99);
    }

    static void promise18_vOutside() {
        for (int v : new int[] {-100, 100, LEAST, MOST, -1000}) {
            changesNothing("v " + v, NO_WEIGHT, x -> x.weight(0, v));
        }
    }

    static void promise18_pointIsNone() {
        for (int point : notPoints(5)) {
            changesNothing("point " + point, NO_WEIGHT, x -> x.weight(point, 1));
        }
        for (int n = 1; n <= 6; n++) {
            due("the last of " + n, over(n).weight(n - 1, 1), 0);
            due("past the last of " + n, over(n).weight(n, 1), NO_WEIGHT);
        }
    }

    // ---- 19: weighs

    static void promise19_noneSomeAll() {
        ExchangeFamilies x = over(3);
        weigh(x, 5, -7, 3);
        int[] want = {0, 5, -7, -2, 3, 8, -4, 1};
        for (int set = 0; set < 8; set++) {
            due("set " + set, x.weighs(set), want[set]);
        }
    }

    static void promise19_leastAndGreatest() {
        ExchangeFamilies x = over(6);
        weigh(x, 99, 99, 99, 99, 99, 99);
        due("the greatest", x.weighs(63), 594);
        weigh(x, -99, -99, -99, -99, -99, -99);
        due("the least", x.weighs(63), -594);
        due("of none", x.weighs(0), 0);
    }

    static void promise19_setIsNone() {
        for (int set : notSets(5)) {
            changesNothing("set " + set, NO_WEIGHT, x -> x.weighs(set));
        }
        for (int n = 1; n <= 6; n++) {
            due("all of " + n, over(n).weighs((1 << n) - 1), 0);
            due("too large for " + n, over(n).weighs(1 << n), NO_WEIGHT);
        }
    }

    static void promise19_changesNothing() {
        changesNothing("weighs", -5, x -> x.weighs(31));
    }

    // ---- 20: greed

    static void promise20_theGreatestFirst() {
        due("the first", greedOf(told(3, 1, 6), 5, 4, 4), 1);
        due("the others", greedOf(told(3, 1, 6), 5, 6, 4), 6);
        due("the last point", greedOf(told(6, 31, 32), 1, 1, 1, 1, 1, 2), 32);
    }

    static void promise20_withoutItsSign() {
        // point 1 is left first, so only 1 and 4 are there
        due("below 0 is great, too", greedOf(told(3, 1, 2, 4), 1, -9, 8), 4);
        due("the least and the greatest", greedOf(told(2, 0, 3), 98, -99), 0);
        due("the greatest and the least", greedOf(told(2, 0, 3), 99, -98), 3);
    }

    static void promise20_ofLikeOnesTheLeast() {
        due("all 0", greedOf(told(3, 1, 2, 4), 0, 0, 0), 1);
        due("all 7", greedOf(told(3, 2, 4), 7, 7, 7), 2);
        due("like but for the sign", greedOf(told(2, 0, 3), -7, 7), 0);
        due("like but for the sign, turned", greedOf(told(2, 0, 3), 7, -7), 3);
        due("99 and -99", greedOf(told(2, 0, 3), 99, -99), 3);
    }

    static void promise20_zeroIsTaken() {
        due("no weight", greedOf(told(2, 0, 3), 0, 0), 3);
        due("one of 0", greedOf(told(1, 0, 1), 0), 1);
        due("one of -1", greedOf(told(1, 0, 1), -1), 0);
    }

    static void promise20_theOtherWayRound() {
        due("taken, as all have it", greedOf(told(3, 3, 5), -9, 0, 0), 3);
        due("left, as none has it", greedOf(told(2, 1), 0, 9), 1);
        due("taken after others", greedOf(told(3, 3, 4), 9, -8, 0), 3);
        due("left after others", greedOf(told(3, 1, 6), 9, 8, 7), 1);
    }

    static void promise20_isNotAlwaysBest() {
        ExchangeFamilies x = told(3, 1, 6);
        due("greed", greedOf(x, 5, 4, 4), 1);
        due("best", x.best(0), 6);
    }

    static void promise20_oneMember() {
        for (int set = 0; set < 64; set++) {
            due("set " + set, greedOf(told(6, set), 3, -4, 5, 0, -99, 99), set);
        }
    }

    static void promise20_noMembersAndAllSets() {
        due("no members", greedOf(told(6), 1, 2, 3, 4, 5, 6), NONE);
        due("all sets, all 0", greedOf(allSets(6), 0, 0, 0, 0, 0, 0), 63);
        due("all sets", greedOf(allSets(6), 5, -5, 0, -1, 99, -99), 1 + 4 + 16);
        due("all sets, all below", greedOf(allSets(6), -1, -2, -3, -4, -5, -6), 0);
    }

    static void promise20_eachFamily() {
        for (int f = 0; f < 6; f++) {
            due("family " + f, toldAt(f, 3, 1, 6).greed(f), 1);
        }
    }

    static void promise20_familyIsNone() {
        for (int f : notFamilies()) {
            changesNothing("greed " + f, BAD, x -> x.greed(f));
        }
    }

    static void promise20_missing() {
        changesNothing("greed", MISSING, x -> x.greed(NO_FAMILY));
    }

    static void promise20_changesNothing() {
        // 99 0 -5 0 -99: 0 is taken, 4 left, 2 left, 1 taken
        changesNothing("greed", 3, x -> x.greed(0));
        changesNothing("of none", NONE, x -> x.greed(2));
    }

    // ---- 21: best

    static void promise21_greatestWeight() {
        due("two", bestOf(told(3, 1, 6), 5, 4, 4), 6);
        due("one", bestOf(told(3, 1, 6), 9, 4, 4), 1);
        due("the last point", bestOf(told(6, 31, 32), 1, 1, 1, 1, 1, 6), 32);
    }

    static void promise21_ofLikeOnesTheLeast() {
        due("all 0", bestOf(told(3, 4, 2, 7), 0, 0, 0), 2);
        due("like sums", bestOf(told(3, 3, 4), 2, 3, 5), 3);
        due("0 and none", bestOf(told(3, 0, 7), 1, 1, -2), 0);
    }

    static void promise21_belowZero() {
        due("one member", bestOf(told(2, 3), -9, -99), 3);
        due("the least bad", bestOf(told(6, 63, 62), -99, -99, -99, -99, -99, -99), 62);
    }

    static void promise21_noMembersAndAllSets() {
        due("no members", bestOf(told(6), 1, 2, 3, 4, 5, 6), NONE);
        due("all sets, all 0", bestOf(allSets(6), 0, 0, 0, 0, 0, 0), 0);
        due("all sets", bestOf(allSets(6), 5, -5, 0, -1, 99, -99), 1 + 16);
        due("all sets, all above", bestOf(allSets(6), 99, 99, 99, 99, 99, 99), 63);
    }

    static void promise21_eachFamily() {
        for (int f = 0; f < 6; f++) {
            due("family " + f, toldAt(f, 3, 1, 6).best(f), 1);
        }
    }

    static void promise21_familyIsNone() {
        for (int f : notFamilies()) {
            changesNothing("best " + f, BAD, x -> x.best(f));
        }
    }

    static void promise21_missing() {
        changesNothing("best", MISSING, x -> x.best(NO_FAMILY));
    }

    static void promise21_changesNothing() {
        changesNothing("best", 3, x -> x.best(0));
        changesNothing("of none", NONE, x -> x.best(2));
    }

    public static void main(String[] args) throws IllegalAccessException {
        runAll(WeightsTest.class, 18, 21);
    }
}
