/** Points and families: promises 1 to 13. */
public final class FamiliesTest extends Promises {
    // ---- 1: a new object

    static void promise1_fourPoints() {
        ExchangeFamilies x = new ExchangeFamilies();
        due("n", x.count(0), 4);
        due("the greatest set", x.has(0, 15), MISSING);
        due("a set too large", x.has(0, 16), BAD);
        due("the last point", x.entryOf(3, 3), 0);
        due("a point too large", x.entryOf(4, 0), BAD);
    }

    static void promise1_noFamilies() {
        ExchangeFamilies x = new ExchangeFamilies();
        due("families", x.count(1), 0);
        for (int f = 0; f < 6; f++) {
            due("family " + f, x.of(f, 0), MISSING);
        }
    }

    static void promise1_tableIsZero() {
        ExchangeFamilies x = new ExchangeFamilies();
        due("entries", x.count(3), 0);
        for (int i = 0; i < 4; i++) {
            for (int j = 0; j < 4; j++) {
                due("entry " + i + ", " + j, x.entryOf(i, j), 0);
            }
        }
    }

    static void promise1_weightsAreZero() {
        ExchangeFamilies x = new ExchangeFamilies();
        for (int point = 0; point < 4; point++) {
            due("weight " + point, x.weighs(1 << point), 0);
        }
    }

    static void promise1_noRows() {
        ExchangeFamilies x = new ExchangeFamilies();
        due("rows", x.count(2), 0);
        for (int row = 0; row < 4; row++) {
            due("row " + row, x.put(row, 0, 1), MISSING);
            due("number of row " + row, x.get(row, 0), NO);
        }
    }

    static void promise1_noImage() {
        due(new ExchangeFamilies().back(), STATE);
    }

    static void promise1_constants() {
        due("NONE", ExchangeFamilies.NONE, -1);
        due("BAD", ExchangeFamilies.BAD, -2);
        due("STATE", ExchangeFamilies.STATE, -3);
        due("NO", ExchangeFamilies.NO, Long.MIN_VALUE);
    }

    static void promise1_objectsShareNothing() {
        ExchangeFamilies used = busy();
        ExchangeFamilies other = new ExchangeFamilies();
        due("n", other.count(0), 4);
        due("families", other.count(1), 0);
        due("rows", other.count(2), 0);
        due("entries", other.count(3), 0);
        due("weights", other.weighs(15), 0);
        due("image", other.back(), STATE);
        other.ground(1);
        other.image();
        due("n of the first", used.count(0), 5);
        due("image of the first", used.back(), 2);
    }

    // ---- 2: ground

    static void promise2_fromEachToEach() {
        for (int from = 1; from <= 6; from++) {
            for (int to = 1; to <= 6; to++) {
                ExchangeFamilies x = over(from);
                due(from + " to " + to, x.ground(to), from);
                due("n", x.count(0), to);
            }
        }
    }

    static void promise2_setsAndPointsOfEach() {
        for (int n = 1; n <= 6; n++) {
            ExchangeFamilies x = over(n);
            due("the greatest set", x.tell(0, (1 << n) - 1, 1), 0);
            due("a set too large", x.tell(0, 1 << n, 1), BAD);
            due("the last point", x.entryOf(n - 1, 0), 0);
            due("a point too large", x.entryOf(n, 0), BAD);
        }
    }

    static void promise2_tooFewOrTooMany() {
        for (int n : around(1, 6)) {
            changesNothing("ground " + n, BAD, x -> x.ground(n));
        }
    }

    static void promise2_familiesAreMissing() {
        ExchangeFamilies x = over(5);
        for (int f = 0; f < 6; f++) {
            x.sized(f, 0, 5);
        }
        due("the same n", x.ground(5), 5);
        due("families", x.count(1), 0);
        for (int f = 0; f < 6; f++) {
            due("family " + f, x.member(f, -1), MISSING);
            x.tell(f, 3, 1);
            members(x, f, 3);
        }
    }

    static void promise2_tableIsZero() {
        ExchangeFamilies x = over(6);
        for (int i = 0; i < 6; i++) {
            for (int j = i + 1; j < 6; j++) {
                x.entry(i, j, 4);
            }
        }
        due("all", x.count(3), 30);
        x.ground(2);
        due("of two points", x.count(3), 0);
        x.ground(6);
        due("of six again", x.count(3), 0);
        due("the last", x.entryOf(5, 4), 0);
    }

    static void promise2_weightsAreZero() {
        ExchangeFamilies x = over(6);
        for (int point = 0; point < 6; point++) {
            x.weight(point, 7);
        }
        x.ground(1);
        due("of one point", x.weighs(1), 0);
        x.ground(6);
        for (int point = 0; point < 6; point++) {
            due("point " + point, x.weight(point, 1), 0);
        }
    }

    static void promise2_rowsStay() {
        ExchangeFamilies x = busy();
        x.ground(1);
        due("rows", x.count(2), 7);
        numbers(x, 0, 5, -1, 100);
    }

    static void promise2_imageStays() {
        ExchangeFamilies x = busy();
        x.ground(6);
        due("families", x.back(), 2);
        due("n", x.count(0), 3);
    }

    // ---- 3: tell

    static void promise3_isOrIsNot() {
        ExchangeFamilies x = over(4);
        due("first", x.tell(5, 9, 1), 0);
        due("again", x.tell(5, 9, 1), 1);
        members(x, 5, 9);
        due("not", x.tell(5, 9, 0), 1);
        members(x, 5);
        due("not again", x.tell(5, 9, 0), 0);
        members(x, 5);
    }

    static void promise3_leastAndGreatestSet() {
        for (int n = 1; n <= 6; n++) {
            ExchangeFamilies x = over(n);
            int all = (1 << n) - 1;
            due("the greatest", x.tell(0, all, 1), 0);
            due("the least", x.tell(0, 0, 1), 0);
            members(x, 0, 0, all);
            due("the greatest is one", x.tell(0, all, 0), 1);
            members(x, 0, 0);
        }
    }

    static void promise3_allSetsOneByOne() {
        ExchangeFamilies x = over(6);
        for (int set = 0; set < 64; set++) {
            due("set " + set, x.tell(2, set, 1), 0);
        }
        due("all", x.member(2, -1), 64);
        for (int set = 0; set < 64; set++) {
            due("set " + set + " not", x.tell(2, set, 0), 1);
        }
        due("none", x.member(2, -1), 0);
        due("it is there", x.count(1), 4);
    }

    static void promise3_missingBecomesOneWithNoOthers() {
        ExchangeFamilies x = over(4);
        due("none is told", x.tell(0, 3, 0), 0);
        members(x, 0);
        due("it is there", x.of(0, 0), 0);
        x.sized(0, 0, 4);
        x.clear(0);
        due("after clear it was none", x.tell(0, 3, 1), 0);
        members(x, 0, 3);
        x.sized(1, 0, 4);
        x.ground(4);
        due("after ground it was none", x.tell(1, 3, 0), 0);
        members(x, 1);
    }

    static void promise3_eachFamily() {
        for (int f = 0; f < 6; f++) {
            ExchangeFamilies x = toldAt(f, 3, 1, 6);
            due("one of " + f, x.tell(f, 6, 0), 1);
            members(x, f, 1);
            x = over(3);
            due("a missing one", x.tell(f, 6, 1), 0);
            due("only that", x.count(1), 1 << f);
        }
    }

    static void promise3_othersStay() {
        ExchangeFamilies x = told(4, 1, 2, 4);
        x.tell(0, 2, 0);
        members(x, 0, 1, 4);
        x.tell(0, 15, 1);
        members(x, 0, 1, 4, 15);
        due("no other family", x.count(1), 1);
    }

    static void promise3_toldThenOfEachKind() {
        ExchangeFamilies x = told(4, 1);
        x.sized(1, 1, 1);
        x.tabled(2);
        x.twist(0, 0, 3);
        x.reduce(0, 1, 0, 4);
        x.dual(0, 5);
        for (int f = 1; f < 6; f++) {
            int first = x.member(f, 0);
            int many = x.member(f, -1);
            due("it was a member", x.tell(f, first, 1), 1);
            due("kind", x.of(f, 0), 0);
            due("as many members", x.member(f, -1), many);
        }
    }

    static void promise3_familyIsNone() {
        for (int f : notFamilies()) {
            changesNothing("tell " + f, BAD, x -> x.tell(f, 0, 1));
        }
    }

    static void promise3_setIsNone() {
        for (int set : notSets(5)) {
            changesNothing("tell " + set, BAD, x -> x.tell(0, set, 1));
            changesNothing("tell a missing one " + set, BAD, x -> x.tell(NO_FAMILY, set, 1));
        }
    }

    static void promise3_isIsNone() {
        for (int is : around(0, 1)) {
            changesNothing("is " + is, BAD, x -> x.tell(1, 3, is));
            changesNothing("of a missing one, is " + is, BAD, x -> x.tell(NO_FAMILY, 3, is));
        }
    }

    // ---- 4: sized

    static void promise4_eachLeastAndMost() {
        int[][] ofSize = {{1, 1}, {1, 2, 1}, {1, 3, 3, 1}, {1, 4, 6, 4, 1}, {1, 5, 10, 10, 5, 1},
            {1, 6, 15, 20, 15, 6, 1}};
        for (int n = 1; n <= 6; n++) {
            ExchangeFamilies x = over(n);
            for (int least = 0; least <= n; least++) {
                int sum = 0;
                for (int most = least; most <= n; most++) {
                    sum += ofSize[n - 1][most];
                    due(n + ": " + least + " .. " + most, x.sized(0, least, most), sum);
                    due("the least size", x.of(0, 6), least);
                    due("the greatest size", x.of(0, 7), most);
                }
            }
        }
    }

    static void promise4_noPointsAndAllPoints() {
        ExchangeFamilies x = over(6);
        due("0 .. 0", x.sized(0, 0, 0), 1);
        members(x, 0, 0);
        due("6 .. 6", x.sized(0, 6, 6), 1);
        members(x, 0, 63);
    }

    static void promise4_eachFamily() {
        for (int f = 0; f < 6; f++) {
            ExchangeFamilies x = over(3);
            due("family " + f, x.sized(f, 2, 2), 3);
            members(x, f, 3, 5, 6);
            due("only that", x.count(1), 1 << f);
        }
    }

    static void promise4_sizedThen() {
        ExchangeFamilies x = told(3, 0, 1, 7);
        due(x.sized(0, 1, 1), 3);
        members(x, 0, 1, 2, 4);
        due("kind", x.of(0, 0), 1);
        due("a missing one, too", x.sized(5, 2, 2), 3);
        due("its kind", x.of(5, 0), 1);
    }

    static void promise4_familyIsNone() {
        for (int f : notFamilies()) {
            changesNothing("sized " + f, BAD, x -> x.sized(f, 0, 1));
        }
    }

    static void promise4_sizesOutside() {
        for (int size : around(0, 5)) {
            changesNothing("least " + size, BAD, x -> x.sized(0, size, 5));
            changesNothing("most " + size, BAD, x -> x.sized(0, 0, size));
            changesNothing("both " + size, BAD, x -> x.sized(NO_FAMILY, size, size));
        }
    }

    static void promise4_leastAboveMost() {
        for (int least = 1; least <= 5; least++) {
            int first = least;
            changesNothing(least + " .. " + (least - 1), BAD, x -> x.sized(0, first, first - 1));
        }
        changesNothing("5 .. 0", BAD, x -> x.sized(NO_FAMILY, 5, 0));
    }

    // ---- 5: tabled

    static void promise5_tableOfZeros() {
        for (int n = 1; n <= 6; n++) {
            ExchangeFamilies x = over(n);
            due(n + " points", x.tabled(0), 1);
            members(x, 0, 0);
        }
    }

    static void promise5_setsWhoseWholeIsNotZero() {
        ExchangeFamilies x = over(6);
        x.entry(0, 5, 1);
        x.entry(2, 3, 6);
        due(x.tabled(4), 4);
        members(x, 4, 0, 12, 33, 45);
        for (int set = 0; set < 64; set++) {
            due("set " + set, x.has(4, set), x.whole(set) != 0 ? 1 : 0);
        }
    }

    static void promise5_allEvenSets() {
        ExchangeFamilies x = over(6);
        for (int i = 0; i < 6; i++) {
            for (int j = i + 1; j < 6; j++) {
                x.entry(i, j, 1);
            }
        }
        due("all of even size", x.tabled(0), 32);
        due("the least", x.of(0, 6), 0);
        due("the greatest", x.of(0, 7), 6);
    }

    static void promise5_eachFamily() {
        for (int f = 0; f < 6; f++) {
            ExchangeFamilies x = over(3);
            x.entry(1, 2, 1);
            due("family " + f, x.tabled(f), 2);
            members(x, f, 0, 6);
            due("only that", x.count(1), 1 << f);
        }
    }

    static void promise5_tabledThen() {
        ExchangeFamilies x = told(4, 1, 2);
        x.tabled(0);
        due("kind", x.of(0, 0), 2);
        members(x, 0, 0);
    }

    static void promise5_laterTablesDoNotChangeIt() {
        ExchangeFamilies x = over(4);
        x.entry(0, 1, 1);
        x.tabled(0);
        x.entry(0, 1, 0);
        x.entry(2, 3, 1);
        members(x, 0, 0, 3);
        x.pivot(12);
        members(x, 0, 0, 3);
    }

    static void promise5_familyIsNone() {
        for (int f : notFamilies()) {
            changesNothing("tabled " + f, BAD, x -> x.tabled(f));
        }
    }

    // ---- 6: twist

    static void promise6_differencesWithAllMembers() {
        ExchangeFamilies x = told(3, 0, 1, 6);
        due("how many", x.twist(0, 5, 1), 3);
        members(x, 1, 3, 4, 5);
        due("kind", x.of(1, 0), 3);
        members(x, 0, 0, 1, 6);
        due("kind of the first", x.of(0, 0), 0);
    }

    static void promise6_byNoneAndByAll() {
        ExchangeFamilies x = told(6, 0, 1, 62);
        due("by none", x.twist(0, 0, 1), 3);
        members(x, 1, 0, 1, 62);
        due("kind", x.of(1, 0), 3);
        due("by all", x.twist(0, 63, 2), 3);
        members(x, 2, 1, 62, 63);
        due("kind", x.of(2, 0), 3);
    }

    static void promise6_byEachPoint() {
        for (int point = 0; point < 6; point++) {
            ExchangeFamilies x = told(6, 0, 63);
            x.twist(0, 1 << point, 1);
            int one = 1 << point;
            members(x, 1, Math.min(one, 63 - one), Math.max(one, 63 - one));
        }
    }

    static void promise6_itself() {
        ExchangeFamilies x = told(3, 0, 1, 6);
        due("itself", x.twist(0, 7, 0), 3);
        members(x, 0, 1, 6, 7);
        due("kind", x.of(0, 0), 3);
    }

    static void promise6_eachToEach() {
        for (int f = 0; f < 6; f++) {
            for (int to = 0; to < 6; to++) {
                ExchangeFamilies x = toldAt(f, 3, 1, 6);
                due(f + " to " + to, x.twist(f, 1, to), 2);
                members(x, to, 0, 7);
            }
        }
    }

    static void promise6_noMembersAndAllSets() {
        ExchangeFamilies x = allSets(6);
        tell(x, 1);
        due("no members", x.twist(1, 9, 2), 0);
        due("kind", x.of(2, 0), 3);
        due("all sets", x.twist(0, 9, 2), 64);
    }

    static void promise6_laterTellsDoNotChangeIt() {
        ExchangeFamilies x = told(3, 1);
        x.twist(0, 1, 1);
        x.tell(0, 2, 1);
        members(x, 1, 0);
        x.clear(0);
        members(x, 1, 0);
    }

    static void promise6_familiesAreNone() {
        for (int f : notFamilies()) {
            changesNothing("f " + f, BAD, x -> x.twist(f, 0, 0));
            changesNothing("to " + f, BAD, x -> x.twist(0, 0, f));
            changesNothing("to " + f + " before missing", BAD, x -> x.twist(NO_FAMILY, 0, f));
        }
    }

    static void promise6_setIsNone() {
        for (int set : notSets(5)) {
            changesNothing("set " + set, BAD, x -> x.twist(0, set, 1));
            changesNothing("set " + set + " before missing", BAD, x -> x.twist(NO_FAMILY, set, 1));
        }
    }

    static void promise6_missing() {
        changesNothing("to another", MISSING, x -> x.twist(NO_FAMILY, 0, 0));
        changesNothing("to itself", MISSING, x -> x.twist(NO_FAMILY, 31, NO_FAMILY));
    }

    // ---- 7: dual

    static void promise7_twistedByAllPoints() {
        for (int n = 1; n <= 6; n++) {
            ExchangeFamilies x = told(n, 0, 1);
            int all = (1 << n) - 1;
            due(n + " points", x.dual(0, 5), 2);
            members(x, 5, all - 1, all);
            due("kind", x.of(5, 0), 5);
            members(x, 0, 0, 1);
        }
    }

    static void promise7_itself() {
        ExchangeFamilies x = told(3, 0, 1, 6);
        due("once", x.dual(0, 0), 3);
        members(x, 0, 1, 6, 7);
        due("twice", x.dual(0, 0), 3);
        members(x, 0, 0, 1, 6);
        due("kind", x.of(0, 0), 5);
    }

    static void promise7_eachToEach() {
        for (int f = 0; f < 6; f++) {
            for (int to = 0; to < 6; to++) {
                ExchangeFamilies x = toldAt(f, 3, 1, 5);
                due(f + " to " + to, x.dual(f, to), 2);
                members(x, to, 2, 6);
            }
        }
    }

    static void promise7_noMembersAndAllSets() {
        ExchangeFamilies x = allSets(6);
        tell(x, 1);
        due("no members", x.dual(1, 2), 0);
        due("kind", x.of(2, 0), 5);
        due("all sets", x.dual(0, 2), 64);
    }

    static void promise7_laterTellsDoNotChangeIt() {
        ExchangeFamilies x = told(3, 1);
        x.dual(0, 1);
        x.tell(0, 2, 1);
        members(x, 1, 6);
    }

    static void promise7_familiesAreNone() {
        for (int f : notFamilies()) {
            changesNothing("f " + f, BAD, x -> x.dual(f, 0));
            changesNothing("to " + f, BAD, x -> x.dual(0, f));
            changesNothing("to " + f + " before missing", BAD, x -> x.dual(NO_FAMILY, f));
        }
    }

    static void promise7_missing() {
        changesNothing("to another", MISSING, x -> x.dual(NO_FAMILY, 0));
        changesNothing("to itself", MISSING, x -> x.dual(NO_FAMILY, NO_FAMILY));
    }

    // ---- 8: reduce

    static void promise8_leftOut() {
        ExchangeFamilies x = told(3, 1, 3, 4, 6, 7);
        due("members without it", x.reduce(0, 1, 0, 1), 2);
        members(x, 1, 1, 4);
        due("kind", x.of(1, 0), 4);
        members(x, 0, 1, 3, 4, 6, 7);
    }

    static void promise8_leftOutWhereAllHaveIt() {
        ExchangeFamilies x = told(3, 2, 3, 7);
        due("all, each without it", x.reduce(0, 1, 0, 1), 3);
        members(x, 1, 0, 1, 5);
    }

    static void promise8_leftOutWhereAllHaveEachPoint() {
        for (int point = 0; point < 6; point++) {
            ExchangeFamilies x = told(6, 1 << point, 63);
            due("point " + point, x.reduce(0, point, 0, 1), 2);
            members(x, 1, 0, 63 - (1 << point));
        }
    }

    static void promise8_leftOutWhereNoneHasIt() {
        ExchangeFamilies x = told(3, 0, 1, 5);
        due("all", x.reduce(0, 1, 0, 1), 3);
        members(x, 1, 0, 1, 5);
        due("kind", x.of(1, 0), 4);
    }

    static void promise8_drawnTogether() {
        ExchangeFamilies x = told(3, 0, 1, 3, 6, 7);
        due("members that have it, each without it", x.reduce(0, 1, 1, 1), 3);
        members(x, 1, 1, 4, 5);
        due("kind", x.of(1, 0), 4);
    }

    static void promise8_drawnTogetherWhereNoneHasIt() {
        ExchangeFamilies x = told(3, 0, 1, 5);
        due("all", x.reduce(0, 1, 1, 1), 3);
        members(x, 1, 0, 1, 5);
        due("kind", x.of(1, 0), 4);
    }

    static void promise8_noMembers() {
        ExchangeFamilies x = told(3);
        for (int way = 0; way < 2; way++) {
            due("way " + way, x.reduce(0, 2, way, 1 + way), 0);
            due("kind", x.of(1 + way, 0), 4);
        }
    }

    static void promise8_allSetsByEachPoint() {
        for (int point = 0; point < 6; point++) {
            for (int way = 0; way < 2; way++) {
                ExchangeFamilies x = allSets(6);
                due("point " + point + ", way " + way, x.reduce(0, point, way, 0), 32);
                due("none has it", x.of(0, 4), 1 << point);
                due("the greatest", x.member(0, 31), 63 - (1 << point));
            }
        }
    }

    static void promise8_eachToEach() {
        for (int f = 0; f < 6; f++) {
            for (int to = 0; to < 6; to++) {
                ExchangeFamilies x = toldAt(f, 3, 1, 3, 6);
                due(f + " to " + to, x.reduce(f, 1, 1, to), 2);
                members(x, to, 1, 4);
            }
        }
    }

    static void promise8_staysAPoint() {
        ExchangeFamilies x = told(3, 4, 6);
        x.reduce(0, 2, 0, 0);
        due("n", x.count(0), 3);
        members(x, 0, 0, 2);
        due("a set with it", x.tell(0, 7, 1), 0);
    }

    static void promise8_itselfAndLaterTells() {
        ExchangeFamilies x = told(3, 1, 3);
        due("itself", x.reduce(0, 1, 1, 0), 1);
        members(x, 0, 1);
        x.reduce(0, 0, 1, 1);
        x.tell(0, 7, 1);
        members(x, 1, 0);
    }

    static void promise8_familiesAreNone() {
        for (int f : notFamilies()) {
            changesNothing("f " + f, BAD, x -> x.reduce(f, 0, 0, 0));
            changesNothing("to " + f, BAD, x -> x.reduce(0, 0, 0, f));
            changesNothing("to " + f + " before missing", BAD, x -> x.reduce(NO_FAMILY, 0, 0, f));
        }
    }

    static void promise8_pointIsNone() {
        for (int point : notPoints(5)) {
            changesNothing("point " + point, BAD, x -> x.reduce(0, point, 0, 1));
            changesNothing("point " + point + " before missing", BAD, x -> x.reduce(NO_FAMILY, point, 1, 1));
        }
    }

    static void promise8_wayIsNone() {
        for (int way : around(0, 1)) {
            changesNothing("way " + way, BAD, x -> x.reduce(0, 0, way, 1));
            changesNothing("way " + way + " before missing", BAD, x -> x.reduce(NO_FAMILY, 0, way, 1));
        }
    }

    static void promise8_missing() {
        changesNothing("to another", MISSING, x -> x.reduce(NO_FAMILY, 0, 0, 0));
        changesNothing("to itself", MISSING, x -> x.reduce(NO_FAMILY, 4, 1, NO_FAMILY));
    }

    // ---- 9: clear

    static void promise9_howManyItHad() {
        ExchangeFamilies x = allSets(6);
        tell(x, 5);
        tell(x, 3, 7);
        due("all sets", x.clear(0), 64);
        due("none", x.clear(5), 0);
        due("one is left", x.count(1), 8);
        due("its one", x.clear(3), 1);
        due("none is left", x.count(1), 0);
    }

    static void promise9_eachFamily() {
        for (int f = 0; f < 6; f++) {
            ExchangeFamilies x = toldAt(f, 3, 1, 6);
            due("family " + f, x.clear(f), 2);
            due("the others", x.count(1), 63 - (1 << f));
        }
    }

    static void promise9_missingThen() {
        ExchangeFamilies x = told(3, 1, 2);
        x.clear(0);
        due("of", x.of(0, 0), MISSING);
        due("has", x.has(0, 1), MISSING);
        due("again", x.clear(0), MISSING);
    }

    static void promise9_familyIsNone() {
        for (int f : notFamilies()) {
            changesNothing("clear " + f, BAD, x -> x.clear(f));
        }
    }

    static void promise9_missing() {
        changesNothing("clear", MISSING, x -> x.clear(NO_FAMILY));
    }

    // ---- 10: has

    static void promise10_eachSet() {
        ExchangeFamilies x = told(6, 0, 31, 32, 63);
        for (int set = 0; set < 64; set++) {
            boolean is = set == 0 || set == 31 || set == 32 || set == 63;
            due("set " + set, x.has(0, set), is ? 1 : 0);
        }
    }

    static void promise10_noMembersAndAllSets() {
        for (int n = 1; n <= 6; n++) {
            ExchangeFamilies x = allSets(n);
            tell(x, 1);
            for (int set = 0; set < 1 << n; set++) {
                due("all have " + set, x.has(0, set), 1);
                due("none has " + set, x.has(1, set), 0);
            }
        }
    }

    static void promise10_eachFamily() {
        for (int f = 0; f < 6; f++) {
            ExchangeFamilies x = toldAt(f, 3, 6);
            for (int other = 0; other < 6; other++) {
                due("family " + other, x.has(other, 6), other == f ? 1 : 0);
            }
        }
    }

    static void promise10_changesNothing() {
        changesNothing("has", 1, x -> x.has(0, 17));
        changesNothing("has not", 0, x -> x.has(0, 31));
    }

    static void promise10_familyIsNone() {
        for (int f : notFamilies()) {
            changesNothing("has " + f, BAD, x -> x.has(f, 0));
        }
    }

    static void promise10_setIsNone() {
        for (int n = 1; n <= 6; n++) {
            for (int set : notSets(n)) {
                due("set " + set + " of " + n + " points", allSets(n).has(0, set), BAD);
            }
        }
        for (int set : notSets(5)) {
            changesNothing("set " + set, BAD, x -> x.has(0, set));
            changesNothing("set " + set + " before missing", BAD, x -> x.has(NO_FAMILY, set));
        }
    }

    static void promise10_missing() {
        changesNothing("has", MISSING, x -> x.has(NO_FAMILY, 0));
    }

    // ---- 11: member

    static void promise11_risingAsBits() {
        ExchangeFamilies x = told(6, 63, 17, 5, 32);
        due("first", x.member(0, 0), 5);
        due("second", x.member(0, 1), 17);
        due("third", x.member(0, 2), 32);
        due("last", x.member(0, 3), 63);
    }

    static void promise11_howMany() {
        ExchangeFamilies x = allSets(6);
        tell(x, 1);
        due("all", x.member(0, -1), 64);
        due("none", x.member(1, -1), 0);
    }

    static void promise11_eachOfAllSets() {
        ExchangeFamilies x = allSets(6);
        for (int k = 0; k < 64; k++) {
            due("member " + k, x.member(0, k), k);
        }
    }

    static void promise11_eachFamily() {
        for (int f = 0; f < 6; f++) {
            ExchangeFamilies x = toldAt(f, 3, 1, 6);
            due("family " + f, x.member(f, 1), 6);
            due("how many of " + f, x.member(f, -1), 2);
        }
    }

    static void promise11_outside() {
        changesNothing("just outside", OUTSIDE, x -> x.member(0, 3));
        changesNothing("far outside", OUTSIDE, x -> x.member(0, MOST));
        changesNothing("the first of none", OUTSIDE, x -> x.member(2, 0));
        due("after all", allSets(6).member(0, 64), OUTSIDE);
    }

    static void promise11_kTooSmall() {
        for (int k : new int[] {-2, -3, LEAST}) {
            changesNothing("k " + k, BAD, x -> x.member(0, k));
            changesNothing("k " + k + " before missing", BAD, x -> x.member(NO_FAMILY, k));
        }
    }

    static void promise11_familyIsNone() {
        for (int f : notFamilies()) {
            changesNothing("member of " + f, BAD, x -> x.member(f, 0));
        }
    }

    static void promise11_missing() {
        changesNothing("how many", MISSING, x -> x.member(NO_FAMILY, -1));
        changesNothing("the first", MISSING, x -> x.member(NO_FAMILY, 0));
        changesNothing("missing before outside", MISSING, x -> x.member(NO_FAMILY, MOST));
    }

    // ---- 12: of

    private static void all(ExchangeFamilies x, int... want) {
        for (int what = 0; what < want.length; what++) {
            due("of " + what, x.of(0, what), want[what]);
        }
    }

    static void promise12_some() {
        all(told(4, 3, 5, 7), 0, 1, 0, 0, 8, 1, 2, 3);
    }

    static void promise12_noMembers() {
        for (int n = 1; n <= 6; n++) {
            int points = (1 << n) - 1;
            all(told(n), 0, 0, 1, 1, points, points, NONE, NONE);
        }
    }

    static void promise12_allSets() {
        for (int n = 1; n <= 6; n++) {
            all(allSets(n), 1, 1, 0, 0, 0, 0, 0, n);
        }
    }

    static void promise12_oneMember() {
        all(told(6, 0), 0, 1, 1, 1, 63, 0, 0, 0);
        all(told(6, 63), 0, 1, 1, 1, 0, 63, 6, 6);
        all(told(6, 1), 0, 1, 1, 1, 62, 1, 1, 1);
    }

    static void promise12_kind() {
        ExchangeFamilies x = told(4, 1, 2);
        x.sized(1, 1, 1);
        x.tabled(2);
        x.twist(0, 1, 3);
        x.reduce(0, 0, 0, 4);
        x.dual(0, 5);
        for (int kind = 0; kind < 6; kind++) {
            due("kind " + kind, x.of(kind, 0), kind);
        }
    }

    static void promise12_exchanging() {
        due("three points apart", told(3, 0, 7).of(0, 1), 0);
        due("two points apart", told(3, 0, 6).of(0, 1), 1);
        due("one point apart", told(3, 0, 4).of(0, 1), 1);
        due("u itself may be the partner", told(3, 0, 1, 3, 7, 6, 4).of(0, 1), 1);
        // from 0 toward 7 by point 2: 4, 5, 6 are none; only partners of the difference count, so not 12
        due("partners are of the difference", told(4, 0, 7, 3, 12).of(0, 1), 0);
    }

    static void promise12_exchangingForAllSizes() {
        for (int n = 1; n <= 6; n++) {
            for (int least = 0; least <= n; least++) {
                for (int most = least; most <= n; most++) {
                    ExchangeFamilies x = over(n);
                    x.sized(0, least, most);
                    due(n + ": " + least + " .. " + most, x.of(0, 1), 1);
                }
            }
        }
    }

    static void promise12_even() {
        due("odd sizes", told(4, 1, 7).of(0, 2), 1);
        due("even sizes", told(6, 0, 3, 15, 63).of(0, 2), 1);
        due("both", told(4, 0, 1).of(0, 2), 0);
        due("five and six", told(6, 31, 63).of(0, 2), 0);
        due("one and five", told(6, 1, 31).of(0, 2), 1);
    }

    static void promise12_level() {
        due("one size", told(6, 3, 12, 48).of(0, 3), 1);
        due("even, but two sizes", told(4, 0, 3).of(0, 3), 0);
        due("five and six", told(6, 31, 63).of(0, 3), 0);
    }

    static void promise12_loopsAndColoops() {
        ExchangeFamilies x = told(6, 33, 35, 41);
        due("loops", x.of(0, 4), 16 + 4);
        due("coloops", x.of(0, 5), 33);
        x = told(6, 31, 32);
        due("no loops", x.of(0, 4), 0);
        due("no coloops", x.of(0, 5), 0);
    }

    static void promise12_leastAndGreatestSize() {
        for (int size = 0; size <= 6; size++) {
            ExchangeFamilies x = told(6, (1 << size) - 1);
            due("least " + size, x.of(0, 6), size);
            due("greatest " + size, x.of(0, 7), size);
        }
        ExchangeFamilies x = told(6, 1, 30, 63);
        due("least", x.of(0, 6), 1);
        due("greatest", x.of(0, 7), 6);
    }

    static void promise12_eachFamily() {
        int[] want = {0, 1, 1, 1, 1, 2, 2, 2};
        for (int f = 0; f < 6; f++) {
            ExchangeFamilies x = toldAt(f, 4, 6, 10);
            for (int what = 0; what < 8; what++) {
                due("of " + f + ", " + what, x.of(f, what), want[what]);
            }
        }
    }

    static void promise12_changesNothing() {
        // 14, 28, 31: each two are two points apart
        int[] want = {5, 1, 1, 0, 0, 12, 3, 5};
        for (int what = 0; what < 8; what++) {
            int asked = what;
            changesNothing("of " + what, want[what], x -> x.of(4, asked));
        }
    }

    static void promise12_whatIsNone() {
        for (int what : around(0, 7)) {
            changesNothing("what " + what, BAD, x -> x.of(0, what));
            changesNothing("what " + what + " before missing", BAD, x -> x.of(NO_FAMILY, what));
        }
    }

    static void promise12_familyIsNone() {
        for (int f : notFamilies()) {
            changesNothing("of " + f, BAD, x -> x.of(f, 0));
        }
    }

    static void promise12_missing() {
        for (int what = 0; what < 8; what++) {
            int asked = what;
            changesNothing("of " + what, MISSING, x -> x.of(NO_FAMILY, asked));
        }
    }

    // ---- 13: taken

    static void promise13_eachKindForEach() {
        ExchangeFamilies x = told(4, 1, 2);
        x.sized(1, 1, 1);
        x.tabled(2);
        x.twist(0, 1, 3);
        x.reduce(0, 3, 0, 4);
        x.dual(0, 5);
        int[] many = {2, 4, 1, 2, 2, 2};
        for (int kind = 0; kind < 6; kind++) {
            for (int k = 0; k < 6; k++) {
                boolean under = k == 0 || k == kind || kind == 5 && k == 3;
                due("kind " + kind + " for " + k, x.taken(kind, k), under ? many[kind] : OTHER);
            }
        }
    }

    static void promise13_noMembersAndAllSets() {
        ExchangeFamilies x = allSets(6);
        tell(x, 1);
        due("all", x.taken(0, 1), 64);
        due("none", x.taken(1, 0), 0);
    }

    static void promise13_staysWhatItIs() {
        changesNothing("a dual for a twisted one", 3, x -> x.taken(4, 3));
        changesNothing("a dual for a told one", 3, x -> x.taken(4, 0));
        changesNothing("a sized one for a told one", 20, x -> x.taken(1, 0));
    }

    static void promise13_otherKind() {
        for (int k = 1; k < 6; k++) {
            int kind = k;
            changesNothing("a told one for " + k, OTHER, x -> x.taken(0, kind));
        }
        changesNothing("a dual for a reduced one", OTHER, x -> x.taken(4, 4));
    }

    static void promise13_kindIsNone() {
        for (int k : around(0, 5)) {
            changesNothing("k " + k, BAD, x -> x.taken(0, k));
            changesNothing("k " + k + " before missing", BAD, x -> x.taken(NO_FAMILY, k));
        }
    }

    static void promise13_familyIsNone() {
        for (int f : notFamilies()) {
            changesNothing("taken " + f, BAD, x -> x.taken(f, 0));
        }
    }

    static void promise13_missing() {
        for (int k = 0; k < 6; k++) {
            int kind = k;
            changesNothing("for " + k, MISSING, x -> x.taken(NO_FAMILY, kind));
        }
    }

    public static void main(String[] args) throws IllegalAccessException {
        runAll(FamiliesTest.class, 1, 13);
    }
}
