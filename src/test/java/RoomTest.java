import java.lang.management.ManagementFactory;

/** All calls of a run live in one room: the calls make nothing, a new object is small. */
public final class RoomTest {
    private static long bytesSoFar() {
        return ((com.sun.management.ThreadMXBean) ManagementFactory.getThreadMXBean()).getCurrentThreadAllocatedBytes();
    }

    private static void callAll(ExchangeFamilies x) {
        x.ground(6);
        x.sized(0, 0, 6);
        x.sized(1, 2, 3);
        x.tabled(2);
        x.twist(0, 5, 3);
        x.dual(0, 4);
        x.reduce(0, 1, 1, 5);
        x.tell(5, 1, 1);
        for (int what = 0; what < 8; what++) {
            x.of(0, what);
            x.fails(1, what);
            x.jumps(0, 1, what);
            x.same(0, 1, what);
            x.count(what);
        }
        x.partner(0, 1, 2, 0);
        x.near(1, 63);
        x.apart(0, 0, 63);
        x.weight(0, 1);
        x.greed(0);
        x.best(0);
        x.entry(0, 1, 3);
        x.whole(63);
        x.pivot(3);
        x.jump(0, 1, 5);
        x.row(0, 2, 80);
        x.put(0, 5, 1);
        x.copy(0, 0, 0, 1, 70);
        x.lay(1, 0);
        x.film(0, 0, 0);
        x.image();
        x.back();
        x.clear(0);
    }

    private static boolean tooMuch(String what, long bytes, long most) {
        System.out.println(what + ": " + bytes + " bytes, at most " + most);
        return bytes > most;
    }

    public static void main(String[] args) {
        ExchangeFamilies x = new ExchangeFamilies();
        callAll(x);
        long before = bytesSoFar();
        for (int i = 0; i < 100; i++) {
            callAll(x);
        }
        long calls = bytesSoFar() - before;
        before = bytesSoFar();
        ExchangeFamilies[] made = new ExchangeFamilies[100];
        for (int i = 0; i < made.length; i++) {
            made[i] = new ExchangeFamilies();
        }
        long objects = bytesSoFar() - before;
        // What the machine itself makes along the way is let pass.
        boolean bad = tooMuch("7,000 calls", calls, 100_000);
        bad |= tooMuch("100 objects", objects, 1_000_000);
        if (bad) {
            System.exit(1);
        }
    }
}
