import java.util.Random;

/** All families over few points, and tabled ones over more, held against the model where looking is dear. */
public final class SmallFamiliesTest {
    private static int checks = 0;

    private final Model model = new Model();
    private final ExchangeFamilies real = new ExchangeFamilies();

    private SmallFamiliesTest(int n) {
        model.ground(n);
        real.ground(n);
    }

    private static void due(String what, int got, int want) {
        checks++;
        if (got != want) {
            System.out.println(what + " answered " + got + ", due is " + want);
            System.exit(1);
        }
    }

    private void become(int f, int sets) {
        for (int set = 0; set < 1 << model.w.n; set++) {
            model.tell(f, set, sets >> set & 1);
            real.tell(f, set, sets >> set & 1);
        }
    }

    private void compareOne(String name) {
        for (int what = 0; what < 8; what++) {
            due(name + " of " + what, real.of(0, what), model.of(0, what));
        }
        for (int what = 0; what < 3; what++) {
            due(name + " fails " + what, real.fails(0, what), model.fails(0, what));
        }
        due(name + " greed", real.greed(0), model.greed(0));
    }

    private void compareTwo(String name) {
        for (int what = 0; what < 4; what++) {
            due(name + " jumps " + what, real.jumps(0, 1, what), model.jumps(0, 1, what));
        }
        for (int way = 0; way < 3; way++) {
            due(name + " same " + way, real.same(0, 1, way), model.same(0, 1, way));
        }
    }

    private static void all(int n, int stride) {
        SmallFamiliesTest test = new SmallFamiliesTest(n);
        int families = 1 << (1 << n);
        for (int f = 0; f < families; f++) {
            test.become(0, f);
            test.compareOne(n + " points, " + f);
            for (int g = f; g < families; g += stride) {
                test.become(1, g);
                test.compareTwo(n + " points, " + f + ", " + g);
            }
        }
    }

    private void fillTable(Random random) {
        for (int i = 0; i < model.w.n; i++) {
            for (int j = i + 1; j < model.w.n; j++) {
                int v = random.nextBoolean() ? 0 : random.nextInt(7);
                model.entry(i, j, v);
                real.entry(i, j, v);
            }
        }
    }

    /** Tabled families, one twisted, with up to two sets told otherwise: near to exchanging, not always. */
    private static void tabled(Random random) {
        int n = 4 + random.nextInt(3);
        SmallFamiliesTest test = new SmallFamiliesTest(n);
        for (int f = 0; f < 2; f++) {
            test.fillTable(random);
            test.model.tabled(f);
            test.real.tabled(f);
        }
        int by = random.nextInt(1 << n);
        test.model.twist(0, by, 0);
        test.real.twist(0, by, 0);
        for (int changes = random.nextInt(3); changes > 0; changes--) {
            int set = random.nextInt(1 << n), is = random.nextInt(2), f = random.nextInt(2);
            test.model.tell(f, set, is);
            test.real.tell(f, set, is);
        }
        test.compareOne("tabled");
        test.compareTwo("tabled");
        int whole = test.model.whole(by);
        due("whole", test.real.whole(by), whole);
        due("pivot", test.real.pivot(by), test.model.pivot(by));
        for (int i = 0; i < n; i++) {
            for (int j = 0; j < n; j++) {
                due("entryOf", test.real.entryOf(i, j), test.model.entryOf(i, j));
            }
        }
    }

    public static void main(String[] args) {
        all(1, 1);
        all(2, 1);
        all(3, 7);
        Random random = new Random(5);
        for (int i = 0; i < 1000; i++) {
            tabled(random);
        }
        System.out.println(checks + " answers are the model's");
    }
}
