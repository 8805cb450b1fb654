/** Each promise by itself: ordinary calls, the edges that the document names, wrong calls. */
public final class PromisesTest {
    private static final int NONE = -1, BAD = -2, STATE = -3, MISSING = -11, OUTSIDE = -12, OTHER = -13;
    private static final long NO = Long.MIN_VALUE;
    private static int wrong = 0, checks = 0;

    private static void due(String call, long got, long want) {
        checks++;
        if (got != want) {
            wrong++;
            System.out.println(call + " answered " + got + ", due is " + want);
        }
    }

    /** A family told set by set over n points, as family 0 of a new object. */
    private static ExchangeFamilies told(int n, int... sets) {
        ExchangeFamilies x = new ExchangeFamilies();
        x.ground(n);
        x.tell(0, 0, 0);
        for (int set : sets) {
            x.tell(0, set, 1);
        }
        return x;
    }

    private static void members(String name, ExchangeFamilies x, int f, int... sets) {
        due(name + ": how many", x.member(f, -1), sets.length);
        for (int k = 0; k < sets.length; k++) {
            due(name + ": member " + k, x.member(f, k), sets[k]);
        }
    }

    private static void newObject() {
        ExchangeFamilies x = new ExchangeFamilies();
        due("1 n", x.count(0), 4);
        due("1 families", x.count(1), 0);
        due("1 rows", x.count(2), 0);
        due("1 entries", x.count(3), 0);
        due("1 weights", x.weighs(15), 0);
        due("1 image", x.back(), STATE);
        for (int f = 0; f < 6; f++) {
            due("1 of", x.of(f, 0), MISSING);
        }
        due("1 NONE", ExchangeFamilies.NONE, NONE);
        due("1 BAD", ExchangeFamilies.BAD, BAD);
        due("1 STATE", ExchangeFamilies.STATE, STATE);
        due("1 NO", ExchangeFamilies.NO, NO);
    }

    private static void grounds() {
        ExchangeFamilies x = told(3, 1, 2);
        x.entry(0, 1, 3);
        x.weight(2, 9);
        x.row(1, 0, 5);
        for (int n : new int[] {0, -1, 7, Integer.MAX_VALUE, Integer.MIN_VALUE}) {
            due("2 ground " + n, x.ground(n), BAD);
        }
        due("2 refusals change nothing", x.count(1), 1);
        due("2 ground 6", x.ground(6), 3);
        due("2 families", x.count(1), 0);
        due("2 entries", x.count(3), 0);
        due("2 weights", x.weighs(63), 0);
        due("2 rows stay", x.count(2), 2);
        due("2 set 63", x.has(0, 63), MISSING);
        due("2 ground 1", x.ground(1), 6);
        due("2 n", x.count(0), 1);
        due("2 set 2 of one point", x.tell(0, 2, 1), BAD);
        due("2 told anew has no other members", x.tell(0, 0, 0), 0);
        members("2", x, 0);
    }

    private static void tells() {
        ExchangeFamilies x = new ExchangeFamilies();
        due("3 first", x.tell(5, 15, 1), 0);
        due("3 again", x.tell(5, 15, 1), 1);
        due("3 other", x.tell(5, 0, 1), 0);
        due("3 not", x.tell(5, 15, 0), 1);
        due("3 not again", x.tell(5, 15, 0), 0);
        members("3", x, 5, 0);
        due("3 none told", x.tell(4, 3, 0), 0);
        due("3 there", x.count(1), 48);
        x.sized(0, 0, 4);
        due("3 of a sized one", x.tell(0, 7, 1), 1);
        due("3 told then", x.of(0, 0), 0);
        due("3 all stay", x.member(0, -1), 16);
        due("3 f", x.tell(6, 0, 1), BAD);
        due("3 f below", x.tell(-1, 0, 1), BAD);
        due("3 set", x.tell(3, 16, 1), BAD);
        due("3 set below", x.tell(3, -1, 1), BAD);
        due("3 is", x.tell(3, 0, 2), BAD);
        due("3 is below", x.tell(3, 0, -1), BAD);
        due("3 still missing", x.of(3, 0), MISSING);
        x.ground(6);
        due("3 the last set", x.tell(0, 63, 1), 0);
        members("3 last", x, 0, 63);
    }

    private static void sizes() {
        ExchangeFamilies x = new ExchangeFamilies();
        due("4 1 .. 2", x.sized(0, 1, 2), 10);
        due("4 kind", x.of(0, 0), 1);
        due("4 0 .. 0", x.sized(0, 0, 0), 1);
        due("4 4 .. 4", x.sized(1, 4, 4), 1);
        members("4", x, 1, 15);
        due("4 least above", x.sized(2, 3, 2), BAD);
        due("4 most above n", x.sized(2, 0, 5), BAD);
        due("4 least below 0", x.sized(2, -1, 2), BAD);
        due("4 f", x.sized(6, 0, 1), BAD);
        due("4 missing still", x.of(2, 0), MISSING);
        x.ground(6);
        due("4 all", x.sized(0, 0, 6), 64);
        due("4 three", x.sized(1, 3, 3), 20);
    }

    private static void tables() {
        ExchangeFamilies x = new ExchangeFamilies();
        due("5 all zero", x.tabled(0), 1);
        members("5", x, 0, 0);
        x.entry(0, 1, 1);
        x.entry(2, 3, 1);
        due("5 two pairs", x.tabled(1), 4);
        members("5 pairs", x, 1, 0, 3, 12, 15);
        due("5 kind", x.of(1, 0), 2);
        x.entry(0, 1, 0);
        members("5 as it was made", x, 1, 0, 3, 12, 15);
        due("5 f", x.tabled(6), BAD);
        due("5 f below", x.tabled(-1), BAD);
    }

    private static void twists() {
        ExchangeFamilies x = told(3, 0, 1, 6);
        due("6 twist", x.twist(0, 5, 1), 3);
        members("6", x, 1, 3, 4, 5);
        due("6 kind", x.of(1, 0), 3);
        members("6 the first stays", x, 0, 0, 1, 6);
        due("6 itself", x.twist(0, 7, 0), 3);
        members("6 itself", x, 0, 1, 6, 7);
        x.tell(0, 0, 1);
        members("6 as it was made", x, 1, 3, 4, 5);
        due("6 set", x.twist(0, 8, 1), BAD);
        due("6 to", x.twist(0, 0, 6), BAD);
        due("6 f", x.twist(-1, 0, 0), BAD);
        due("6 BAD before missing", x.twist(3, 8, 1), BAD);
        due("6 missing", x.twist(3, 0, 0), MISSING);
        due("6 stays", x.member(0, -1), 4);
    }

    private static void duals() {
        ExchangeFamilies x = told(3, 0, 1, 6);
        due("7 dual", x.dual(0, 2), 3);
        members("7", x, 2, 1, 6, 7);
        due("7 kind", x.of(2, 0), 5);
        due("7 of itself", x.dual(2, 2), 3);
        members("7 twice", x, 2, 0, 1, 6);
        due("7 f", x.dual(6, 0), BAD);
        due("7 to", x.dual(0, -1), BAD);
        due("7 missing", x.dual(4, 0), MISSING);
        due("7 BAD before missing", x.dual(4, 6), BAD);
    }

    private static void reductions() {
        ExchangeFamilies x = told(3, 1, 3, 4, 6);
        due("8 left out", x.reduce(0, 1, 0, 1), 2);
        members("8 left out", x, 1, 1, 4);
        due("8 kind", x.of(1, 0), 4);
        due("8 drawn", x.reduce(0, 1, 1, 2), 2);
        members("8 drawn", x, 2, 1, 4);
        due("8 drawn, none have it", x.reduce(1, 1, 1, 3), 2);
        members("8 none have it", x, 3, 1, 4);
        x = told(3, 2, 3, 7);
        due("8 left out, all have it", x.reduce(0, 1, 0, 0), 3);
        members("8 all have it", x, 0, 0, 1, 5);
        due("8 n stays", x.count(0), 3);
        x = told(3);
        due("8 of none", x.reduce(0, 0, 0, 1), 0);
        due("8 of none, drawn", x.reduce(0, 0, 1, 1), 0);
        due("8 there", x.count(1), 3);
        due("8 f", x.reduce(6, 0, 0, 0), BAD);
        due("8 point", x.reduce(0, 3, 0, 0), BAD);
        due("8 point below", x.reduce(0, -1, 0, 0), BAD);
        due("8 way", x.reduce(0, 0, 2, 0), BAD);
        due("8 to", x.reduce(0, 0, 0, 6), BAD);
        due("8 BAD before missing", x.reduce(5, 0, 0, 6), BAD);
        due("8 missing", x.reduce(5, 0, 0, 0), MISSING);
        x = told(6, 63, 31);
        due("8 the last point", x.reduce(0, 5, 1, 1), 1);
        members("8 the last point", x, 1, 31);
    }

    private static void clears() {
        ExchangeFamilies x = told(3, 1, 2);
        due("9 f", x.clear(6), BAD);
        due("9 missing", x.clear(1), MISSING);
        due("9 clear", x.clear(0), 2);
        due("9 again", x.clear(0), MISSING);
        due("9 gone", x.count(1), 0);
        x.tell(0, 4, 1);
        members("9 told anew", x, 0, 4);
    }

    private static void asks() {
        ExchangeFamilies x = told(6, 5, 17, 63);
        due("10 has", x.has(0, 5), 1);
        due("10 the last", x.has(0, 63), 1);
        due("10 not", x.has(0, 31), 0);
        due("10 set", x.has(0, 64), BAD);
        due("10 f", x.has(6, 0), BAD);
        due("10 BAD before missing", x.has(1, -1), BAD);
        due("10 missing", x.has(1, 0), MISSING);
        members("11", x, 0, 5, 17, 63);
        due("11 past", x.member(0, 3), OUTSIDE);
        due("11 far", x.member(0, Integer.MAX_VALUE), OUTSIDE);
        due("11 k", x.member(0, -2), BAD);
        due("11 f", x.member(-1, 0), BAD);
        due("11 BAD before missing", x.member(1, -2), BAD);
        due("11 missing", x.member(1, -1), MISSING);
        x.sized(2, 0, 6);
        due("11 the last of all", x.member(2, 63), 63);
        due("11 past all", x.member(2, 64), OUTSIDE);
    }

    private static void whatOf() {
        ExchangeFamilies x = told(4, 3, 5, 7);
        int[] want = {0, 1, 0, 0, 8, 1, 2, 3};
        for (int what = 0; what < want.length; what++) {
            due("12 of " + what, x.of(0, what), want[what]);
        }
        x = told(4);
        int[] none = {0, 0, 1, 1, 15, 15, NONE, NONE};
        for (int what = 0; what < none.length; what++) {
            due("12 of none " + what, x.of(0, what), none[what]);
        }
        due("12 odd sizes", told(4, 1, 7).of(0, 2), 1);
        due("12 odd sizes are not one", told(4, 1, 7).of(0, 3), 0);
        due("12 even sizes", told(4, 0, 3, 15).of(0, 2), 1);
        due("12 level", told(4, 3, 12).of(0, 3), 1);
        due("12 not exchanging", told(4, 0, 7).of(0, 1), 0);
        due("12 one set is", told(4, 9).of(0, 1), 1);
        due("12 the least of 6 points", told(6, 63).of(0, 6), 6);
        due("12 the empty set", told(6, 0).of(0, 7), 0);
        due("12 what", x.of(0, 8), BAD);
        due("12 what below", x.of(0, -1), BAD);
        due("12 f", x.of(6, 0), BAD);
        due("12 missing", x.of(1, 7), MISSING);
        due("12 BAD before missing", x.of(1, 8), BAD);
    }

    private static void takenFor() {
        ExchangeFamilies x = told(4, 1, 2);
        x.sized(1, 1, 1);
        x.tabled(2);
        x.twist(0, 1, 3);
        x.reduce(0, 0, 0, 4);
        x.dual(0, 5);
        for (int kind = 0; kind < 6; kind++) {
            due("13 kind " + kind, x.of(kind, 0), kind);
            for (int k = 0; k < 6; k++) {
                boolean under = k == 0 || k == kind || kind == 5 && k == 3;
                due("13 taken " + kind + " " + k, x.taken(kind, k), under ? x.member(kind, -1) : OTHER);
            }
        }
        due("13 k", x.taken(0, 6), BAD);
        due("13 k below", x.taken(0, -1), BAD);
        due("13 f", x.taken(6, 0), BAD);
        x.clear(3);
        due("13 missing", x.taken(3, 1), MISSING);
        due("13 BAD before missing", x.taken(3, 6), BAD);
    }

    private static void failing() {
        ExchangeFamilies x = told(4, 1, 2, 14);
        // from 1 toward 14 points 0 and 1 are each other's PARTNER; by 2 there would be 4, 5, 7, 13: no MEMBERS
        due("14 x", x.fails(0, 0), 1);
        due("14 y", x.fails(0, 1), 14);
        due("14 u", x.fails(0, 2), 2);
        x = told(3, 0, 7);
        due("14 x 0", x.fails(0, 0), 0);
        due("14 y 7", x.fails(0, 1), 7);
        due("14 u 0", x.fails(0, 2), 0);
        x.sized(1, 1, 2);
        for (int what = 0; what < 3; what++) {
            due("14 none fails", x.fails(1, what), NONE);
            due("14 none there", told(3).fails(0, what), NONE);
        }
        due("14 what", x.fails(0, 3), BAD);
        due("14 what below", x.fails(0, -1), BAD);
        due("14 f", x.fails(6, 0), BAD);
        due("14 missing", x.fails(2, 0), MISSING);
        due("14 BAD before missing", x.fails(2, 3), BAD);
    }

    private static void partners() {
        ExchangeFamilies x = told(4, 0, 3, 5, 6, 7, 14);
        due("15 least", x.partner(0, 0, 7, 0), 1);
        due("15 u itself", x.partner(0, 3, 7, 2), 2);
        due("15 below u", x.partner(0, 0, 7, 2), 0);
        due("15 of the difference alone", x.partner(0, 0, 14, 3), NONE);
        due("15 x no member", x.partner(0, 1, 7, 1), STATE);
        due("15 y no member", x.partner(0, 7, 1, 1), STATE);
        due("15 u not of it", x.partner(0, 3, 7, 0), STATE);
        due("15 f", x.partner(6, 0, 7, 0), BAD);
        due("15 x", x.partner(0, 16, 7, 0), BAD);
        due("15 y", x.partner(0, 0, -1, 0), BAD);
        due("15 u", x.partner(0, 0, 7, 4), BAD);
        due("15 BAD before state", x.partner(0, 1, 7, -1), BAD);
        due("15 missing", x.partner(1, 0, 7, 0), MISSING);
        due("15 BAD before missing", x.partner(1, 0, 7, 4), BAD);
    }

    private static void nearAndApart() {
        ExchangeFamilies x = told(6, 0, 3, 15, 63);
        due("16 itself", x.near(0, 15), 0);
        due("16 one off", x.near(0, 7), 1);
        due("16 two off", x.near(0, 48), 2);
        due("16 far", told(6, 0).near(0, 63), 6);
        due("16 none", told(6).near(0, 0), NONE);
        due("16 set", x.near(0, 64), BAD);
        due("16 f", x.near(6, 0), BAD);
        due("16 missing", x.near(1, 0), MISSING);
        due("16 BAD before missing", x.near(1, -1), BAD);
        due("17 itself", x.apart(0, 3, 3), 0);
        due("17 two points", x.apart(0, 0, 3), 1);
        due("17 three exchanges", x.apart(0, 63, 0), 3);
        due("17 one point", told(6, 8, 9).apart(0, 8, 9), 1);
        due("17 no way", told(6, 0, 7).apart(0, 0, 7), NONE);
        due("17 only by members", told(6, 0, 7, 8).apart(0, 0, 7), NONE);
        due("17 the shorter way", told(6, 0, 3, 12, 15, 60).apart(0, 0, 60), 2);
        due("17 x no member", x.apart(0, 1, 3), STATE);
        due("17 y no member", x.apart(0, 3, 1), STATE);
        due("17 neither, the same", x.apart(0, 1, 1), STATE);
        due("17 x", x.apart(0, 64, 3), BAD);
        due("17 y", x.apart(0, 3, -1), BAD);
        due("17 f", x.apart(-1, 3, 3), BAD);
        due("17 missing", x.apart(1, 3, 3), MISSING);
        due("17 BAD before missing", x.apart(1, 3, 64), BAD);
    }

    private static void weighing() {
        ExchangeFamilies x = told(3, 0, 1, 2, 4, 7);
        due("18 first", x.weight(0, 99), 0);
        due("18 then", x.weight(0, -99), 99);
        due("18 was", x.weight(0, 5), -99);
        due("18 too great", x.weight(0, 100), -1000);
        due("18 too small", x.weight(0, -100), -1000);
        due("18 point", x.weight(3, 0), -1000);
        due("18 point below", x.weight(-1, 0), -1000);
        due("18 refusals change nothing", x.weight(0, 5), 5);
        x.weight(1, -7);
        x.weight(2, 3);
        due("19 none", x.weighs(0), 0);
        due("19 some", x.weighs(3), -2);
        due("19 all", x.weighs(7), 1);
        due("19 set", x.weighs(8), -1000);
        due("19 set below", x.weighs(-1), -1000);
        // 1 is left, 0 is taken, 2 would be but must be left
        due("20 greed", x.greed(0), 1);
        due("21 best", x.best(0), 1);
    }

    private static void greedAndBest() {
        ExchangeFamilies x = told(3, 1, 6);
        x.weight(0, 5);
        x.weight(1, 4);
        x.weight(2, 4);
        due("20 greed is not best", x.greed(0), 1);
        due("21 best is", x.best(0), 6);
        x = told(3, 1, 2, 4);
        due("20 like ones: the least first", x.greed(0), 1);
        due("21 like ones: the least", x.best(0), 1);
        x.weight(0, -2);
        x.weight(1, 2);
        x.weight(2, -2);
        due("20 without its sign", x.greed(0), 2);
        x = told(3, 3, 5);
        x.weight(0, -9);
        due("20 the other way round", x.greed(0), 3);
        x = told(2, 1);
        x.weight(1, 9);
        due("20 left where it can't be", x.greed(0), 1);
        x = told(2, 0, 3);
        due("20 weight 0 is taken", x.greed(0), 3);
        due("21 the least as bits", x.best(0), 0);
        x = told(2, 3);
        x.weight(0, -9);
        due("21 below 0", x.best(0), 3);
        due("20 none", told(3).greed(0), NONE);
        due("21 none", told(3).best(0), NONE);
        due("20 f", x.greed(6), BAD);
        due("20 f below", x.greed(-1), BAD);
        due("20 missing", x.greed(1), MISSING);
        due("21 f", x.best(6), BAD);
        due("21 f below", x.best(-1), BAD);
        due("21 missing", x.best(1), MISSING);
    }

    private static void entries() {
        ExchangeFamilies x = new ExchangeFamilies();
        due("22 first", x.entry(0, 3, 2), 0);
        due("22 turned", x.entry(3, 0, 1), 5);
        due("22 was", x.entry(0, 3, 0), 6);
        due("23 zero turned", x.entryOf(3, 0), 0);
        x.entry(1, 2, 6);
        due("23 entry", x.entryOf(1, 2), 6);
        due("23 turned", x.entryOf(2, 1), 1);
        due("23 of i, i", x.entryOf(2, 2), 0);
        due("22 i is j", x.entry(1, 1, 0), BAD);
        due("22 v", x.entry(0, 1, 7), BAD);
        due("22 v below", x.entry(0, 1, -1), BAD);
        due("22 i", x.entry(4, 1, 0), BAD);
        due("22 j", x.entry(1, -1, 0), BAD);
        due("23 i", x.entryOf(-1, 0), BAD);
        due("23 j", x.entryOf(0, 4), BAD);
    }

    private static void wholes() {
        ExchangeFamilies x = new ExchangeFamilies();
        x.ground(6);
        due("24 none", x.whole(0), 1);
        due("24 zero", x.whole(3), 0);
        x.entry(0, 1, 3);
        due("24 two", x.whole(3), 2);
        x.entry(2, 3, 2);
        x.entry(4, 5, 3);
        // the square of 3 times 2 times 3, 18, that is 4
        due("24 six", x.whole(63), 2);
        due("24 odd", x.whole(7), 0);
        x.entry(0, 2, 1);
        x.entry(1, 3, 6);
        // 01 23 less 02 13: 6 and 1 are 0
        due("24 four", x.whole(15), 0);
        x.entry(0, 3, 1);
        x.entry(1, 2, 5);
        due("24 four and 03 12", x.whole(15), 4);
        due("24 set", x.whole(64), BAD);
        due("24 set below", x.whole(-1), BAD);
        due("24 changes nothing", x.entryOf(0, 1), 3);
    }

    private static void pivots() {
        ExchangeFamilies x = new ExchangeFamilies();
        x.ground(3);
        x.entry(0, 1, 2);
        x.entry(0, 2, 3);
        x.entry(1, 2, 5);
        due("25 whole is 0", x.pivot(7), STATE);
        due("25 of one point", x.pivot(1), STATE);
        due("25 set", x.pivot(8), BAD);
        due("25 set below", x.pivot(-1), BAD);
        due("25 by none", x.pivot(0), 6);
        due("25 as it was", x.entryOf(1, 2), 5);
        due("25 by 0, 1", x.pivot(3), 6);
        // inverse of 2 is 4: 0, 1 is -4; 0, 2 is 5 times 4; 1, 2 is -3 times 4
        due("25 0, 1", x.entryOf(0, 1), 3);
        due("25 1, 0", x.entryOf(1, 0), 4);
        due("25 0, 2", x.entryOf(0, 2), 6);
        due("25 2, 0", x.entryOf(2, 0), 1);
        due("25 1, 2", x.entryOf(1, 2), 2);
        due("25 2, 2", x.entryOf(2, 2), 0);
        due("25 back", x.pivot(3), 6);
        due("25 0, 1 back", x.entryOf(0, 1), 2);
        due("25 0, 2 back", x.entryOf(0, 2), 3);
        due("25 1, 2 back", x.entryOf(1, 2), 5);
        x.ground(4);
        x.entry(0, 1, 1);
        x.entry(0, 2, 1);
        x.entry(1, 3, 1);
        due("25 four pairs come of three", x.pivot(3), 8);
        due("25 2, 3 is new", x.entryOf(2, 3), 6);
        due("25 0, 2 is not there", x.entryOf(0, 2), 0);
    }

    private static void jumping() {
        ExchangeFamilies x = told(3, 0, 3);
        x.tell(1, 1, 1);
        x.tell(1, 6, 1);
        // 0 and 1: 1; 0 and 6: 12; 3 and 1: 5; 3 and 6: 1 2 1, that is 16
        due("26 many", x.jumps(0, 1, 0), 4);
        due("26 least", x.jumps(0, 1, 2), 1);
        due("26 greatest", x.jumps(0, 1, 3), 16);
        due("26 not sprung", x.jumps(0, 1, 1), 0);
        due("26 turned", x.jumps(1, 0, 3), 16);
        due("26 with itself", x.jumps(1, 1, 0), 3);
        due("27 one", x.jump(0, 1, 12), 1);
        due("27 the greatest", x.jump(1, 0, 16), 1);
        due("27 not", x.jump(0, 1, 2), 0);
        due("27 row", x.jump(0, 1, 27), BAD);
        due("27 the last row", x.jump(0, 1, 26), 0);
        due("27 row below", x.jump(0, 1, -1), BAD);
        due("27 f", x.jump(6, 1, 0), BAD);
        due("27 g", x.jump(0, -1, 0), BAD);
        due("27 missing", x.jump(0, 2, 0), MISSING);
        due("27 missing first", x.jump(2, 0, 0), MISSING);
        due("27 BAD before missing", x.jump(2, 0, 27), BAD);
        due("26 f", x.jumps(-1, 0, 0), BAD);
        due("26 g", x.jumps(0, 6, 0), BAD);
        due("26 what", x.jumps(0, 0, 4), BAD);
        due("26 what below", x.jumps(0, 0, -1), BAD);
        due("26 missing", x.jumps(0, 2, 0), MISSING);
        due("26 missing first", x.jumps(2, 0, 0), MISSING);
        due("26 BAD before missing", x.jumps(2, 0, 4), BAD);
        x = told(3);
        int[] none = {0, 0, NONE, NONE};
        for (int what = 0; what < 4; what++) {
            due("26 of none " + what, x.jumps(0, 0, what), none[what]);
        }
        due("27 of none", x.jump(0, 0, 0), 0);
        x = told(1, 0, 1);
        x.tell(1, 0, 1);
        due("26 0 and 1", x.jumps(0, 1, 1), 1);
        due("26 one row", x.jumps(1, 1, 1), 1);
        x = told(2, 0, 3);
        due("26 0, 4, 8", x.jumps(0, 0, 1), 1);
        x.ground(6);
        x.sized(0, 0, 6);
        due("26 all rows", x.jumps(0, 0, 0), 729);
        due("26 all are sprung", x.jumps(0, 0, 1), 1);
        due("26 the greatest of all", x.jumps(0, 0, 3), 728);
        due("27 the greatest of all", x.jump(0, 0, 728), 1);
        due("27 past all", x.jump(0, 0, 729), BAD);
    }

    private static void sameness() {
        ExchangeFamilies x = told(3, 1, 3);
        x.tell(1, 4, 1);
        x.tell(1, 6, 1);
        x.twist(0, 0, 2);
        due("28 same, of another kind", x.same(0, 2, 0), 1);
        due("28 not the same", x.same(0, 1, 0), 0);
        due("28 least twist", x.same(0, 1, 1), 5);
        due("28 by none", x.same(0, 2, 1), 0);
        due("28 alike", x.same(0, 1, 2), 1);
        x.tell(1, 0, 1);
        due("28 no twist", x.same(0, 1, 1), NONE);
        due("28 not alike", x.same(0, 1, 2), 0);
        x = told(4, 1, 3, 7);
        x.tell(1, 8, 1);
        x.tell(1, 10, 1);
        x.tell(1, 11, 1);
        due("28 a chain renamed", x.same(0, 1, 2), 1);
        due("28 a chain is no twist of it", x.same(0, 1, 1), NONE);
        x.tell(1, 11, 0);
        x.tell(1, 12, 1);
        due("28 a fork is none", x.same(0, 1, 2), 0);
        x = told(2);
        x.tell(1, 0, 0);
        due("28 none, the same", x.same(0, 1, 0), 1);
        due("28 none, twisted", x.same(0, 1, 1), 0);
        due("28 none, alike", x.same(0, 1, 2), 1);
        due("28 f", x.same(6, 0, 0), BAD);
        due("28 g", x.same(0, -1, 0), BAD);
        due("28 way", x.same(0, 0, 3), BAD);
        due("28 way below", x.same(0, 0, -1), BAD);
        due("28 missing", x.same(0, 2, 0), MISSING);
        due("28 missing first", x.same(2, 0, 0), MISSING);
        due("28 BAD before missing", x.same(2, 0, 3), BAD);
    }

    private static void makingRows() {
        ExchangeFamilies x = new ExchangeFamilies();
        due("29 row", x.row(0, 0, 80), 1);
        due("29 none", x.row(3, 3, 0), 1);
        due("29 there", x.count(2), 9);
        due("29 n", x.row(1, 0, 81), BAD);
        due("29 n below", x.row(1, 0, -1), -14);
        due("29 sort", x.row(1, 4, 1), BAD);
        due("29 sort below", x.row(1, -2, 1), BAD);
        due("29 sort before size", x.row(1, 4, -1), BAD);
        due("29 no row", x.row(4, 0, 1), BAD);
        due("29 no row below", x.row(-1, 0, -1), BAD);
        due("29 no row, missing", x.row(4, -1, 0), BAD);
        due("29 as before", x.count(2), 9);
        x.put(0, 79, 7);
        due("29 anew", x.row(0, 0, 80), 1);
        due("29 all 0", x.get(0, 79), 0);
        due("29 missing", x.row(0, -1, -5), 1);
        due("29 missing, n above", x.row(0, -1, 99), 1);
        due("29 one left", x.count(2), 8);
    }

    private static void numbers() {
        ExchangeFamilies x = new ExchangeFamilies();
        long[] values = {0, -1, 127, 128, 200, 32767, 32768, 65539, 1L << 31, (1L << 32) + 5, Long.MIN_VALUE};
        for (int sort = 0; sort < 4; sort++) {
            x.row(sort, sort, values.length);
            for (int i = 0; i < values.length; i++) {
                long v = values[i];
                long want = sort == 0 ? (byte) v : sort == 1 ? (short) v : sort == 2 ? (int) v : v;
                due("30 put", x.put(sort, i, v), 1);
                due("31 get " + sort + " " + v, x.get(sort, i), want);
            }
        }
        due("30 past", x.put(0, 11, 1), OUTSIDE);
        due("30 below", x.put(0, -1, 1), OUTSIDE);
        due("30 no row", x.put(4, 0, 1), BAD);
        due("30 no row below", x.put(-1, 0, 1), BAD);
        due("31 past", x.get(0, 11), NO);
        due("31 below", x.get(0, -1), NO);
        due("31 no row", x.get(4, 0), NO);
        due("31 no row below", x.get(-1, 0), NO);
        x.row(2, -1, 0);
        due("30 missing", x.put(2, 0, 1), MISSING);
        due("30 missing before place", x.put(2, -1, 1), MISSING);
        due("31 missing", x.get(2, 0), NO);
        x.row(2, 1, 0);
        due("30 of none", x.put(2, 0, 1), OUTSIDE);
        due("31 of none", x.get(2, 0), NO);
    }

    private static void copies() {
        ExchangeFamilies x = new ExchangeFamilies();
        x.row(0, 2, 5);
        x.row(1, 2, 3);
        x.row(2, 3, 5);
        for (int i = 0; i < 5; i++) {
            x.put(0, i, i + 1);
        }
        due("32 copy", x.copy(0, 2, 1, 1, 2), 2);
        due("32 before", x.get(1, 0), 0);
        due("32 first", x.get(1, 1), 3);
        due("32 last", x.get(1, 2), 4);
        due("32 onto itself", x.copy(0, 0, 0, 1, 4), 4);
        int[] up = {1, 1, 2, 3, 4};
        for (int i = 0; i < 5; i++) {
            due("32 as they were " + i, x.get(0, i), up[i]);
        }
        due("32 downward", x.copy(0, 1, 0, 0, 4), 4);
        int[] down = {1, 2, 3, 4, 4};
        for (int i = 0; i < 5; i++) {
            due("32 as they were, down " + i, x.get(0, i), down[i]);
        }
        due("32 none, at the ends", x.copy(0, 5, 1, 3, 0), 0);
        due("32 none, past the end", x.copy(0, 6, 1, 0, 0), OUTSIDE);
        due("32 none, past the other's", x.copy(0, 0, 1, 4, 0), OUTSIDE);
        due("32 none, below", x.copy(0, -1, 1, 0, 0), OUTSIDE);
        due("32 n below", x.copy(0, 0, 1, 0, -1), OUTSIDE);
        due("32 i", x.copy(0, 3, 1, 0, 3), OUTSIDE);
        due("32 j", x.copy(0, 0, 1, 1, 3), OUTSIDE);
        due("32 j below", x.copy(0, 0, 1, -1, 1), OUTSIDE);
        due("32 far", x.copy(0, 1, 1, 1, Integer.MAX_VALUE), OUTSIDE);
        due("32 far i", x.copy(0, Integer.MAX_VALUE, 1, 0, 1), OUTSIDE);
        due("32 far j", x.copy(0, 0, 1, Integer.MAX_VALUE, 1), OUTSIDE);
        due("32 sorts", x.copy(0, 0, 2, 0, 1), OTHER);
        due("32 sorts before places", x.copy(0, 9, 2, 9, -1), OTHER);
        due("32 missing", x.copy(0, 0, 3, 0, 1), MISSING);
        due("32 missing first", x.copy(3, -1, 0, 0, 1), MISSING);
        due("32 no row", x.copy(4, 0, 3, 0, 1), BAD);
        due("32 no other", x.copy(3, 0, -1, 0, 1), BAD);
        due("32 as before", x.get(1, 1), 3);
    }

    private static void laysAndFilms() {
        ExchangeFamilies x = new ExchangeFamilies();
        x.row(0, 3, 6);
        long[] values = {9, 3, 16, -1, 9, (1L << 32) + 2};
        for (int i = 0; i < values.length; i++) {
            x.put(0, i, values[i]);
        }
        x.sized(2, 0, 4);
        due("33 lay", x.lay(2, 0), 2);
        members("33", x, 2, 3, 9);
        due("33 told", x.of(2, 0), 0);
        x.row(1, 0, 0);
        due("33 of none", x.lay(3, 1), 0);
        due("33 there", x.count(1), 12);
        due("33 f", x.lay(6, 0), BAD);
        due("33 no row", x.lay(0, 4), BAD);
        due("33 no row below", x.lay(0, -1), BAD);
        due("33 missing", x.lay(0, 2), MISSING);
        due("33 BAD before missing", x.lay(-1, 2), BAD);
        due("34 film", x.film(2, 2, 1), 2);
        due("34 first", x.get(2, 0), 3);
        due("34 second", x.get(2, 1), 9);
        due("34 no more", x.get(2, 2), NO);
        x.put(2, 0, 65536 + 7);
        due("34 of its sort", x.get(2, 0), 7);
        due("34 over another", x.film(2, 0, 0), 2);
        due("34 its size", x.put(0, 2, 0), OUTSIDE);
        due("34 of none", x.film(3, 0, 2), 0);
        due("34 there, of none", x.count(2), 7);
        due("34 f", x.film(6, 0, 0), BAD);
        due("34 no row", x.film(2, 4, 0), BAD);
        due("34 sort", x.film(2, 3, 4), BAD);
        due("34 sort below", x.film(2, 3, -1), BAD);
        due("34 missing", x.film(0, 3, 0), MISSING);
        due("34 BAD before missing", x.film(0, 3, 4), BAD);
        due("34 as before", x.count(2), 7);
        x.ground(6);
        x.sized(0, 0, 6);
        due("34 all", x.film(0, 3, 0), 64);
        due("34 the last", x.get(3, 63), 63);
        due("33 all", x.lay(1, 3), 64);
    }

    private static void images() {
        ExchangeFamilies x = told(5, 1, 31);
        x.twist(0, 2, 4);
        x.entry(3, 4, 2);
        x.weight(4, -8);
        x.row(0, 0, 3);
        due("35 image", x.image(), 2);
        x.tell(0, 2, 1);
        x.clear(4);
        x.entry(0, 1, 1);
        x.weight(4, 1);
        x.row(1, 0, 3);
        x.put(0, 0, 5);
        due("36 back", x.back(), 2);
        members("36", x, 0, 1, 31);
        due("36 kind", x.of(4, 0), 3);
        due("36 entries", x.count(3), 2);
        due("36 entry", x.entryOf(4, 3), 5);
        due("36 weight", x.weighs(16), -8);
        due("36 rows stay", x.count(2), 3);
        due("36 numbers stay", x.get(0, 0), 5);
        x.tell(0, 7, 1);
        x.weight(4, 3);
        x.entry(3, 4, 0);
        due("36 again", x.back(), 2);
        members("36 again", x, 0, 1, 31);
        due("36 weight again", x.weighs(16), -8);
        due("36 entry again", x.entryOf(3, 4), 2);
        x.ground(2);
        due("36 after ground", x.back(), 2);
        due("36 n", x.count(0), 5);
        x.ground(1);
        due("35 anew", x.image(), 0);
        x.ground(6);
        due("36 none", x.back(), 0);
        due("36 n anew", x.count(0), 1);
    }

    private static void counts() {
        ExchangeFamilies x = new ExchangeFamilies();
        x.tell(5, 0, 0);
        x.tell(0, 0, 1);
        x.row(2, 0, 0);
        x.entry(0, 1, 1);
        x.entry(2, 1, 1);
        int[] want = {4, 33, 4, 4};
        for (int what = 0; what < 4; what++) {
            due("37 count " + what, x.count(what), want[what]);
        }
        due("37 what", x.count(4), BAD);
        due("37 what below", x.count(-1), BAD);
    }

    public static void main(String[] args) {
        newObject();
        grounds();
        tells();
        sizes();
        tables();
        twists();
        duals();
        reductions();
        clears();
        asks();
        whatOf();
        takenFor();
        failing();
        partners();
        nearAndApart();
        weighing();
        greedAndBest();
        entries();
        wholes();
        pivots();
        jumping();
        sameness();
        makingRows();
        numbers();
        copies();
        laysAndFilms();
        images();
        counts();
        System.out.println(checks + " answers looked at, " + wrong + " not as due");
        if (wrong != 0) {
            System.exit(1);
        }
    }
}
