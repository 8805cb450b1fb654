import java.lang.reflect.InvocationTargetException;
import java.lang.reflect.Method;
import java.util.ArrayList;
import java.util.List;
import java.util.function.Supplier;

/** What the tests by promise share: each test is a static method promiseN_whatHolds and is run by its name. */
abstract class Promises {
    static final int NONE = -1, BAD = -2, STATE = -3;
    static final int MISSING = -11, OUTSIDE = -12, OTHER = -13, BELOW_ZERO = -14, NO_WEIGHT = -1000;
    static final long NO = Long.MIN_VALUE;
    static final int LEAST = Integer.MIN_VALUE, MOST = Integer.MAX_VALUE;

    /** What is missing of busy(). */
    static final int NO_FAMILY = 5, NO_ROW = 3;

    private static String test = "";
    private static int checks = 0;
    private static int wrong = 0;

    /** A call, or some. */
    interface Call {
        long on(ExchangeFamilies x);
    }

    // ---- what is due

    private static void wrong(String what) {
        wrong++;
        System.out.println(test + ": " + what);
    }

    static void due(String what, long got, long want) {
        checks++;
        if (got != want) {
            wrong(what + " answered " + got + ", due is " + want);
        }
    }

    static void due(long got, long want) {
        due("it", got, want);
    }

    static void members(ExchangeFamilies x, int f, int... sets) {
        due("how many members of " + f, x.member(f, -1), sets.length);
        for (int k = 0; k < sets.length; k++) {
            due("member " + k + " of " + f, x.member(f, k), sets[k]);
        }
    }

    static void numbers(ExchangeFamilies x, int row, long... values) {
        for (int i = 0; i < values.length; i++) {
            due("number " + i + " of row " + row, x.get(row, i), values[i]);
        }
        due("past row " + row, x.get(row, values.length), NO);
    }

    /** A call answers so and changes nothing: not what can be seen, and not the image either. */
    static void changesNothing(String what, long want, Supplier<ExchangeFamilies> made, Call call) {
        ExchangeFamilies x = made.get();
        due(what, call.on(x), want);
        alike(what + " left", look(x), look(made.get()));
        ExchangeFamilies y = made.get();
        call.on(y);
        ExchangeFamilies z = made.get();
        due(what + ", then back", y.back(), z.back());
        alike(what + " left behind the image", look(y), look(z));
    }

    static void changesNothing(String what, long want, Call call) {
        changesNothing(what, want, Promises::busy, call);
    }

    private static void alike(String what, String got, String want) {
        checks++;
        if (!got.equals(want)) {
            wrong(what + "\n  " + got + "\n  due is\n  " + want);
        }
    }

    // ---- what is looked at

    /** Numbers just outside, and far outside, of least .. most. */
    static int[] around(int least, int most) {
        return new int[] {least - 1, most + 1, LEAST, MOST};
    }

    static int[] notFamilies() {
        return around(0, 5);
    }

    static int[] notRows() {
        return around(0, 3);
    }

    /** Also those that a shift would take for points. */
    static int[] notPoints(int n) {
        return new int[] {-1, n, 32, 64, LEAST, MOST, -32, -64};
    }

    /** Also those whose lowest bits are a set. */
    static int[] notSets(int n) {
        return new int[] {-1, 1 << n, LEAST, MOST, 1 << 16, LEAST + 1, -(1 << n)};
    }

    static ExchangeFamilies over(int n) {
        ExchangeFamilies x = new ExchangeFamilies();
        x.ground(n);
        return x;
    }

    /** Family f becomes just these sets. */
    static void tell(ExchangeFamilies x, int f, int... sets) {
        x.clear(f);
        x.tell(f, 0, 0);
        for (int set : sets) {
            x.tell(f, set, 1);
        }
    }

    /** Family 0 of a new object over n points becomes these sets. */
    static ExchangeFamilies told(int n, int... sets) {
        ExchangeFamilies x = over(n);
        tell(x, 0, sets);
        return x;
    }

    /** All sets over n points as family 0. */
    static ExchangeFamilies allSets(int n) {
        ExchangeFamilies x = over(n);
        x.sized(0, 0, n);
        return x;
    }

    /** Family f has these sets; all others are there, with no members. */
    static ExchangeFamilies toldAt(int f, int n, int... sets) {
        ExchangeFamilies x = over(n);
        for (int other = 0; other < 6; other++) {
            tell(x, other);
        }
        tell(x, f, sets);
        return x;
    }

    static void fill(ExchangeFamilies x, int row, int sort, long... values) {
        x.row(row, sort, values.length);
        for (int i = 0; i < values.length; i++) {
            x.put(row, i, values[i]);
        }
    }

    /**
     * Something of everything: five points; family 0 is 0, 3, 17, told; 1 is sized; 2 has no members; 3 is
     * tabled; 4 is a dual; 5 is missing. Row 0 has three bytes, row 1 eighty longs, row 2 no shorts; 3 is missing.
     * Its image is of three points and unlike it.
     */
    static ExchangeFamilies busy() {
        ExchangeFamilies x = over(3);
        tell(x, 1, 5, 6);
        x.twist(1, 3, 5);
        x.entry(0, 2, 3);
        x.weight(1, -4);
        x.image();
        x.ground(5);
        tell(x, 0, 0, 3, 17);
        x.sized(1, 2, 3);
        tell(x, 2);
        x.entry(0, 1, 2);
        x.entry(3, 4, 6);
        x.tabled(3);
        x.entry(1, 2, 1);
        x.dual(0, 4);
        x.weight(0, 99);
        x.weight(2, -5);
        x.weight(4, -99);
        fill(x, 0, 0, 5, -1, 100);
        x.row(1, 3, 80);
        x.put(1, 0, Long.MAX_VALUE);
        x.put(1, 79, 12);
        x.row(2, 1, 0);
        return x;
    }

    /** All that can be seen of an object, as a text; it is spent then, as its rows are written over. */
    static String look(ExchangeFamilies x) {
        StringBuilder text = new StringBuilder();
        for (int what = 0; what < 4; what++) {
            text.append(x.count(what)).append(' ');
        }
        for (int f = 0; f < 6; f++) {
            text.append("| family ").append(x.of(f, 0)).append(": ");
            int many = x.member(f, -1);
            for (int k = 0; k < many; k++) {
                text.append(x.member(f, k)).append(' ');
            }
        }
        lookAtPoints(x, text);
        lookAtRows(x, text);
        return text.toString();
    }

    private static void lookAtPoints(ExchangeFamilies x, StringBuilder text) {
        int n = x.count(0);
        text.append("| table ");
        for (int i = 0; i < n; i++) {
            for (int j = 0; j < n; j++) {
                text.append(x.entryOf(i, j));
            }
        }
        text.append(" | weights ");
        for (int point = 0; point < n; point++) {
            text.append(x.weighs(1 << point)).append(' ');
        }
    }

    private static void lookAtRows(ExchangeFamilies x, StringBuilder text) {
        for (int row = 0; row < 4; row++) {
            text.append("| row ");
            for (int other = 0; other < 4; other++) {
                // refused, but it tells whether they are there, and of one sort
                text.append(x.copy(row, 0, other, 0, -1)).append(' ');
            }
            text.append(": ");
            long number = x.get(row, 0);
            for (int i = 0; number != NO; i++) {
                text.append(number).append(' ');
                number = x.get(row, i + 1);
            }
            x.put(row, 0, 0x123456789ABCDEFL);
            text.append("of ").append(x.get(row, 0)).append(' ');
        }
    }

    // ---- the run

    private static int promiseOf(Method m) {
        String name = m.getName();
        int end = name.indexOf('_');
        return name.startsWith("promise") && end > 0 ? Integer.parseInt(name.substring(7, end)) : 0;
    }

    /** Runs all tests of a class; each promise from first to last is to have one. */
    static void runAll(Class<?> tests, int first, int last) throws IllegalAccessException {
        List<Method> found = new ArrayList<>();
        int[] perPromise = new int[last + 1];
        for (Method m : tests.getDeclaredMethods()) {
            int promise = promiseOf(m);
            if (promise >= first && promise <= last) {
                found.add(m);
                perPromise[promise]++;
            } else if (promise != 0) {
                wrong(m.getName() + " stands in the wrong class");
            }
        }
        found.sort((a, b) -> promiseOf(a) != promiseOf(b) ? promiseOf(a) - promiseOf(b)
            : a.getName().compareTo(b.getName()));
        for (Method m : found) {
            run(m);
        }
        for (int promise = first; promise <= last; promise++) {
            if (perPromise[promise] == 0) {
                wrong("promise " + promise + " has no test");
            }
        }
        System.out.println(found.size() + " tests of promises " + first + " to " + last + ": " + checks
            + " answers looked at, " + wrong + " not as due");
        if (wrong != 0) {
            System.exit(1);
        }
    }

    private static void run(Method m) throws IllegalAccessException {
        test = m.getName();
        int before = checks;
        try {
            m.invoke(null);
        } catch (InvocationTargetException e) {
            wrong("threw " + e.getCause());
        }
        if (checks == before) {
            wrong("looks at nothing");
        }
        test = "";
    }
}
