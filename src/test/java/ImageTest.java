/** The image: promises 35 to 37. */
public final class ImageTest extends Promises {
    /** All that an image keeps becomes something else; the rows stay. */
    private static void disturb(ExchangeFamilies x) {
        int n = x.count(0);
        x.ground(n == 6 ? 1 : 6);
        for (int f = 0; f < 6; f++) {
            x.sized(f, 0, 1);
        }
        x.entry(0, 1, 4);
        x.weight(0, 44);
    }

    // ---- 35: image

    static void promise35_howManyFamilies() {
        ExchangeFamilies x = over(2);
        due("none", x.image(), 0);
        for (int f = 5; f >= 0; f--) {
            x.tell(f, 0, 0);
            due("from " + f + " on", x.image(), 6 - f);
        }
        x.clear(3);
        due("one fewer", x.image(), 5);
    }

    static void promise35_changesNothingSeen() {
        ExchangeFamilies x = busy();
        due("families", x.image(), 5);
        ExchangeFamilies y = busy();
        due("as it was", look(x).equals(look(y)) ? 1 : 0, 1);
    }

    static void promise35_keepsAllButTheRows() {
        ExchangeFamilies x = busy();
        x.image();
        disturb(x);
        due("families", x.back(), 5);
        due("as it was", look(x).equals(look(busy())) ? 1 : 0, 1);
    }

    static void promise35_laterChangesDoNotReachIt() {
        ExchangeFamilies x = busy();
        x.image();
        x.tell(0, 30, 1);
        x.tell(1, 3, 0);
        x.clear(4);
        x.entry(0, 1, 6);
        x.pivot(3);
        x.weight(1, 1);
        due("families", x.back(), 5);
        due("as it was", look(x).equals(look(busy())) ? 1 : 0, 1);
    }

    static void promise35_theLastOneIsKept() {
        ExchangeFamilies x = told(2, 1);
        x.image();
        x.ground(6);
        x.tell(3, 63, 1);
        due("the second", x.image(), 1);
        x.ground(1);
        due("back", x.back(), 1);
        due("n", x.count(0), 6);
        due("families", x.count(1), 8);
        members(x, 3, 63);
    }

    // ---- 36: back

    static void promise36_thereIsNone() {
        changesNothing("a new object", STATE, ExchangeFamilies::new, x -> x.back());
        changesNothing("one in use", STATE, () -> {
            ExchangeFamilies x = told(6, 1, 63);
            x.entry(0, 5, 2);
            x.weight(5, 9);
            x.row(1, 1, 1);
            return x;
        }, x -> x.back());
    }

    static void promise36_allThatItKeeps() {
        ExchangeFamilies x = told(5, 1, 31);
        x.twist(0, 2, 4);
        x.entry(3, 4, 2);
        x.weight(4, -8);
        x.image();
        disturb(x);
        due("families", x.back(), 2);
        due("n", x.count(0), 5);
        due("which", x.count(1), 17);
        members(x, 0, 1, 31);
        due("told", x.of(0, 0), 0);
        members(x, 4, 3, 29);
        due("twisted", x.of(4, 0), 3);
        due("entries", x.count(3), 2);
        due("4, 3", x.entryOf(4, 3), 5);
        due("weight 4", x.weighs(16), -8);
        due("weight 0", x.weighs(1), 0);
        due("a set too large", x.has(0, 32), BAD);
    }

    static void promise36_missingFamiliesAreMissing() {
        ExchangeFamilies x = told(4, 1);
        x.image();
        for (int f = 0; f < 6; f++) {
            x.sized(f, 0, 4);
        }
        due("one", x.back(), 1);
        due("which", x.count(1), 1);
        due("told anew it has no others", x.tell(3, 2, 1), 0);
        members(x, 3, 2);
    }

    static void promise36_rowsStay() {
        ExchangeFamilies x = busy();
        fill(x, NO_ROW, 1, 9);
        x.row(0, -1, 0);
        x.put(1, 0, 4);
        x.back();
        due("rows", x.count(2), 14);
        numbers(x, NO_ROW, 9);
        due("a number", x.get(1, 0), 4);
    }

    static void promise36_againAndAgain() {
        ExchangeFamilies x = busy();
        for (int i = 0; i < 3; i++) {
            due("families", x.back(), 2);
            due("n", x.count(0), 3);
            members(x, 1, 5, 6);
            members(x, 5, 5, 6);
            due("kind", x.of(5, 0), 3);
            due("entry", x.entryOf(2, 0), 4);
            due("weight", x.weighs(2), -4);
            disturb(x);
        }
    }

    static void promise36_changesAfterItDoNotReachTheImage() {
        ExchangeFamilies x = busy();
        x.back();
        x.tell(1, 0, 1);
        x.clear(5);
        x.entry(0, 2, 1);
        x.weight(1, 50);
        x.back();
        ExchangeFamilies y = busy();
        y.back();
        due("as it was", look(x).equals(look(y)) ? 1 : 0, 1);
    }

    static void promise36_fewerAndMorePoints() {
        for (int from = 1; from <= 6; from++) {
            for (int to = 1; to <= 6; to++) {
                ExchangeFamilies x = allSets(from);
                x.weight(from - 1, 3);
                x.image();
                x.ground(to);
                due("families", x.back(), 1);
                due("n", x.count(0), from);
                due("members", x.member(0, -1), 1 << from);
                due("weight", x.weighs((1 << from) - 1), 3);
            }
        }
    }

    static void promise36_anImageOfNothing() {
        ExchangeFamilies x = over(1);
        x.image();
        disturb(x);
        due("no families", x.back(), 0);
        due("n", x.count(0), 1);
        due("which", x.count(1), 0);
        due("entries", x.count(3), 0);
        due("weight", x.weighs(1), 0);
        x.ground(6);
        due("entries of six", x.count(3), 0);
        due("weights of six", x.weighs(63), 0);
    }

    // ---- 37: count

    static void promise37_each() {
        ExchangeFamilies x = busy();
        due("n", x.count(0), 5);
        due("families", x.count(1), 31);
        due("rows", x.count(2), 7);
        due("entries", x.count(3), 6);
    }

    static void promise37_familiesAsBits() {
        ExchangeFamilies x = over(1);
        int bits = 0;
        for (int f = 0; f < 6; f++) {
            x.tell(f, 0, 0);
            bits |= 1 << f;
            due("to " + f, x.count(1), bits);
        }
        for (int f = 0; f < 6; f++) {
            x.clear(f);
            bits &= ~(1 << f);
            due("without " + f, x.count(1), bits);
        }
    }

    static void promise37_rowsAsBits() {
        ExchangeFamilies x = over(1);
        int bits = 0;
        for (int row = 0; row < 4; row++) {
            x.row(row, 3 - row, 0);
            bits |= 1 << row;
            due("to " + row, x.count(2), bits);
        }
        for (int row = 0; row < 4; row++) {
            x.row(row, -1, 0);
            bits &= ~(1 << row);
            due("without " + row, x.count(2), bits);
        }
    }

    static void promise37_entriesEachTwice() {
        ExchangeFamilies x = over(6);
        int many = 0;
        for (int i = 0; i < 6; i++) {
            for (int j = i + 1; j < 6; j++) {
                x.entry(i, j, 1 + (i + j) % 6);
                many += 2;
                due(i + ", " + j, x.count(3), many);
            }
        }
        x.entry(5, 0, 0);
        due("one pair fewer", x.count(3), 28);
    }

    static void promise37_changesNothing() {
        int[] want = {5, 31, 7, 6};
        for (int what = 0; what < 4; what++) {
            int asked = what;
            changesNothing("count " + what, want[what], x -> x.count(asked));
        }
    }

    static void promise37_whatIsNone() {
        for (int what : around(0, 3)) {
            changesNothing("count " + what, BAD, x -> x.count(what));
        }
    }

    public static void main(String[] args) throws IllegalAccessException {
        runAll(ImageTest.class, 35, 37);
    }
}
