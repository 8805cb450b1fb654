import java.lang.reflect.InvocationTargetException;
import java.lang.reflect.Method;
import java.util.ArrayList;
import java.util.List;
import java.util.Random;

/** Runs of up to 512 random calls (the same each time), each answer held against the model's. */
public final class ModelTest {
    private static final String[] CALLS = {
        "ground n", "tell f s b", "tell f s b", "tell f s b", "tell f s b", "sized f z z", "tabled f", "twist f s f",
        "dual f f", "reduce f p b f", "clear f", "has f s", "member f k", "of f w7", "of f w7", "taken f w5",
        "fails f w2", "partner f m m p", "near f s", "apart f m m", "weight p v", "weight p v", "weighs s",
        "greed f", "best f", "entry p p w6", "entry p p w6", "entry p p w6", "entryOf p p", "whole s", "pivot s",
        "jumps f f w3", "jump f f t", "same f f w2", "row r q z80", "put r i l", "put r i l", "get r i",
        "copy r i r i i", "lay f r", "film f r q", "image", "back", "count w3"
    };
    private static final int RUNS = 1200, CALLS_IN_A_RUN = 512;

    private final Random random;
    private final ExchangeFamilies real = new ExchangeFamilies();
    private final Model model = new Model();
    private int family = 0;

    private ModelTest(long seed) {
        random = new Random(seed);
    }

    private int upTo(int most) {
        return random.nextInt(most + 1);
    }

    /** Mostly 0 .. most, now and then just outside, or far. */
    private int around(int most) {
        switch (random.nextInt(60)) {
            case 0: return -1;
            case 1: return most + 1;
            case 2: return random.nextInt();
            default: return most < 0 ? 0 : upTo(most);
        }
    }

    private Object argument(String what) {
        int n = model.w.n;
        switch (what.charAt(0)) {
            case 'f': return family = around(5);
            case 's': return around((1 << n) - 1);
            case 'p': return around(n - 1);
            case 'z': return what.length() > 1 ? around(80) : around(n);
            case 'b': return around(1);
            case 'w': return around(what.charAt(1) - '0');
            case 'n': return upTo(3) == 0 ? 6 : around(7);
            case 'k': return around(random.nextBoolean() ? 5 : 64);
            case 'm': return aMember();
            case 'v': return random.nextBoolean() ? around(4) - 2 : around(200) - 100;
            case 't': return around(Model.power(n) - 1);
            case 'r': return around(3);
            case 'q': return around(4) - 1;
            case 'i': return around(random.nextBoolean() ? 5 : 80);
            default: return aNumber(n);
        }
    }

    private int aMember() {
        if (family < 0 || family > 5 || model.w.fams[family] == null || upTo(9) == 0) {
            return around((1 << model.w.n) - 1);
        }
        List<Integer> sets = new ArrayList<>(model.w.fams[family].sets);
        return sets.isEmpty() ? 0 : sets.get(upTo(sets.size() - 1));
    }

    private long aNumber(int n) {
        return upTo(4) == 0 ? random.nextLong() >> upTo(63) : upTo((1 << n) - 1);
    }

    private static Method method(Class<?> of, String name) {
        for (Method m : of.getDeclaredMethods()) {
            if (m.getName().equals(name)) {
                return m;
            }
        }
        throw new IllegalStateException("no " + name);
    }

    private static long answer(Object of, Method method, Object[] arguments) throws ReflectiveOperationException {
        return ((Number) method.invoke(of, arguments)).longValue();
    }

    private boolean run(long seed, Method[] reals, Method[] models) throws ReflectiveOperationException {
        StringBuilder told = new StringBuilder();
        for (int call = 0; call < CALLS_IN_A_RUN; call++) {
            int which = random.nextInt(CALLS.length);
            // Else a run would hardly ever come to stand for long on one ground.
            if (CALLS[which].startsWith("ground") && upTo(4) != 0) {
                continue;
            }
            String[] words = CALLS[which].split(" ");
            Object[] arguments = new Object[words.length - 1];
            for (int i = 0; i < arguments.length; i++) {
                arguments[i] = argument(words[i + 1]);
            }
            String line = words[0] + java.util.Arrays.toString(arguments);
            long due = answer(model, models[which], arguments);
            long got;
            try {
                got = answer(real, reals[which], arguments);
            } catch (InvocationTargetException e) {
                System.out.println(told + line + " threw " + e.getCause() + " (seed " + seed + ")");
                return false;
            }
            if (got != due) {
                System.out.println(told + line + " answered " + got + ", due is " + due + " (seed " + seed + ")");
                return false;
            }
            told.append(line).append(" = ").append(got).append('\n');
        }
        return true;
    }

    public static void main(String[] args) throws ReflectiveOperationException {
        Method[] reals = new Method[CALLS.length];
        Method[] models = new Method[CALLS.length];
        for (int i = 0; i < CALLS.length; i++) {
            String name = CALLS[i].split(" ")[0];
            reals[i] = method(ExchangeFamilies.class, name);
            models[i] = method(Model.class, name);
        }
        for (long seed = 1; seed <= RUNS; seed++) {
            if (!new ModelTest(seed).run(seed, reals, models)) {
                System.exit(1);
            }
        }
        System.out.println(RUNS + " random runs answered as the model");
    }
}
