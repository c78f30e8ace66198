import java.util.NoSuchElementException;

/** What all tests of written cases share. */
abstract class Cases {
    static final Class<NoSuchElementException> NO_SUCH = NoSuchElementException.class;
    static final Class<IllegalArgumentException> ARGUMENT = IllegalArgumentException.class;
    static final Class<IllegalStateException> STATE = IllegalStateException.class;
    static final Class<UnsupportedOperationException> NO_ROOM = UnsupportedOperationException.class;
    static final Class<ArrayIndexOutOfBoundsException> INDEX = ArrayIndexOutOfBoundsException.class;
    static final Class<ArithmeticException> ARITHMETIC = ArithmeticException.class;
    static final int MAX = Integer.MAX_VALUE;
    static final int MIN = Integer.MIN_VALUE;

    final Checks checks = new Checks();

    /** A floor with stops, each told as aisle, place, pieces. */
    static PickPaths floor(int aisles, int blocks, int... stops) {
        PickPaths x = new PickPaths(aisles, blocks);
        for (int i = 0; i + 2 < stops.length; i += 3) {
            x.stop(stops[i], stops[i + 1], stops[i + 2]);
        }
        return x;
    }

    /** The same stop so many times. */
    static PickPaths alike(int many, int aisles, int blocks, int aisle, int place, int pieces) {
        PickPaths x = new PickPaths(aisles, blocks);
        for (int i = 0; i < many; i++) {
            x.stop(aisle, place, pieces);
        }
        return x;
    }

    /** Lays a walk out and goes to its first stops. */
    static PickPaths gone(PickPaths x, int kind, int steps) {
        x.walk(kind);
        for (int i = 0; i < steps; i++) {
            x.go();
        }
        return x;
    }

    static String order(PickPaths x) {
        StringBuilder text = new StringBuilder();
        for (int i = 0; i < x.count(2); i++) {
            text.append(i == 0 ? "" : " ").append(x.step(i));
        }
        return text.toString();
    }

    /** All that can be asked of an object without changing it. */
    static String state(PickPaths x) {
        StringBuilder text = new StringBuilder("walk ").append(order(x));
        text.append(", left ").append(x.left()).append(", full ").append(x.full()).append(", bound ").append(x.bound());
        for (int what = 0; what <= 7; what++) {
            text.append(what == 0 ? ", counts " : " ").append(x.count(what));
        }
        for (int i = 0; i < x.count(0); i++) {
            int stop = i;
            text.append(", stop ").append(i);
            for (int what = 0; what <= 4; what++) {
                text.append(' ').append(x.told(i, what));
            }
            text.append(" share ").append(Checks.outcome(() -> x.share(stop)));
        }
        return text.toString();
    }

    final void laysOut(String what, PickPaths x, int kind, String order, int length) {
        checks.same(what + ": length", x.walk(kind), length);
        checks.same(what + ": order", order(x), order);
        checks.same(what + ": left", x.left(), length);
    }

    /** An exception that nobody waited for fails its test alone; the others still run. */
    final void runAll(Runnable... tests) {
        for (Runnable test : tests) {
            try {
                test.run();
            } catch (RuntimeException e) {
                checks.same("a call", "throws " + e, "an answer");
            }
        }
        checks.finish();
    }
}
