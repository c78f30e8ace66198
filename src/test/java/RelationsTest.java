import java.util.ArrayList;
import java.util.List;
import java.util.Random;
import java.util.TreeSet;

/**
 * What the document's sentences make hold between answers, whatever the state: asked of many chosen runs (the same
 * ones each time). What is due is worked out from other answers alone, not from a model that could share a fault.
 */
public final class RelationsTest extends Cases {
    private static final int RUNS = 1200;
    private static final int CALLS = 24;
    private static final int LEAST = 4;

    /** A call that may change an object. */
    private interface Change {
        int on(PickPaths x);
    }

    private Random random;
    private int aisles;
    private int blocks;
    private final List<Change> changes = new ArrayList<>();

    /** A new object that has had all changes: so that none has more than 512 calls, however much is asked. */
    private PickPaths again() {
        PickPaths x = new PickPaths(aisles, blocks);
        for (Change change : changes) {
            Checks.outcome(() -> change.on(x));
        }
        return x;
    }

    /** The answer of one more call, made on the object, and by and by on all that come after it. */
    private String make(PickPaths x, Change change) {
        changes.add(change);
        return Checks.outcome(() -> change.on(x));
    }

    private int fromDepot(PickPaths x, int stop) {
        return floor(aisles, blocks, x.told(stop, 0), x.told(stop, 1), 1).walk(0) / 2;
    }

    private int fromHere(PickPaths x, int stop) {
        return x.count(7) < 0 ? fromDepot(x, stop) : x.far(x.count(7), stop);
    }

    private int fromHereHome(PickPaths x) {
        return x.count(7) < 0 ? 0 : fromDepot(x, x.count(7));
    }

    private static boolean isWalked(PickPaths x, int stop) {
        return x.told(stop, 4) == 1;
    }

    private static int inState(PickPaths x, int state) {
        int found = 0;
        for (int stop = 0; stop < x.count(0); stop++) {
            found += x.told(stop, 3) == state ? 1 : 0;
        }
        return found;
    }

    private static int openIn(PickPaths x, int aisle) {
        int found = 0;
        for (int stop = 0; stop < x.count(0); stop++) {
            found += x.told(stop, 3) == 0 && x.told(stop, 0) == aisle ? 1 : 0;
        }
        return found;
    }

    private void refused(String answer, Class<? extends RuntimeException> due, boolean isDue, PickPaths x, String before) {
        checks.same("an exception", answer, "throws." + due.getSimpleName());
        checks.same("the state for it", isDue ? 1 : 0, 1);
        checks.same("a refused call leaves", state(x), before);
    }

    private void addStop() {
        int aisle = random.nextInt(aisles);
        int place = random.nextInt(10 * blocks);
        int pieces = random.nextInt(5) == 0 ? 0 : 1 + random.nextInt(100);
        PickPaths x = again();
        String before = state(x);
        int number = x.count(0);
        String walk = order(x);
        String answer = make(x, y -> y.stop(aisle, place, pieces));
        checks.under("STOPS are numbered 0, 1, .. (at most 10): an aisle, a place, pieces");
        if (answer.startsWith("throws")) {
            refused(answer, NO_ROOM, number == 10, x, before);
            return;
        }
        checks.same("its number", answer, Integer.toString(number));
        checks.same("one more", x.count(0), number + 1);
        checks.same("aisle", x.told(number, 0), aisle);
        checks.same("place", x.told(number, 1), place);
        checks.same("pieces", x.told(number, 2), pieces);
        checks.same("it is open", x.told(number, 3), 0);
        checks.same("the walk stays", order(x), walk);
    }

    private void close() {
        int aisle = random.nextInt(aisles);
        boolean on = random.nextBoolean();
        PickPaths x = again();
        String walk = order(x);
        String answer = make(x, y -> y.closed(aisle, on));
        checks.under("An aisle is closed, or open: how many open stops (with pieces or not) are in it");
        checks.same("open ones", answer, Integer.toString(openIn(x, aisle)));
        checks.same("the walk stays", order(x), walk);
        for (int stop = 0; stop < x.count(0); stop++) {
            if (x.told(stop, 0) == aisle) {
                boolean due = !on && x.told(stop, 3) == 0 && x.told(stop, 2) > 0;
                checks.same("walked", x.told(stop, 4), due ? 1 : 0);
            }
        }
    }

    private void go() {
        PickPaths before = again();
        PickPaths x = again();
        int size = before.count(2);
        String answer = make(x, PickPaths::go);
        checks.under("The picker goes to the first stop of the walk that is laid out");
        if (answer.startsWith("throws")) {
            refused(answer, STATE, size == 0 || !isWalked(before, before.step(0)), x, state(before));
            return;
        }
        int next = before.step(0);
        int way = fromHere(before, next);
        checks.same("which", answer, Integer.toString(next));
        checks.same("it was walked", before.told(next, 4), 1);
        checks.same("it is done", x.told(next, 3), 1);
        checks.same("one more is done", x.count(6), before.count(6) + 1);
        checks.same("here is there", x.count(7), next);
        checks.same("the walk has one less", (next + " " + order(x)).trim(), order(before));
        checks.same("metres", x.count(5), before.count(5) + way);
        checks.same("what is left is less by the way", x.left(), before.left() - way);
        checks.same("a share of here", x.share(next), 0);
    }

    private void miss() {
        PickPaths x = again();
        if (x.count(0) == 0) {
            return;
        }
        int stop = random.nextInt(x.count(0));
        boolean isOpen = x.told(stop, 3) == 0;
        String before = state(x);
        String walk = (" " + order(x) + " ").replace(" " + stop + " ", " ").trim();
        String answer = make(x, y -> y.missing(stop));
        checks.under("An open stop is missing: the length of what is left of the walk that is laid out, without it");
        if (answer.startsWith("throws")) {
            refused(answer, STATE, !isOpen, x, before);
            return;
        }
        checks.same("it was open", isOpen ? 1 : 0, 1);
        checks.same("it is missing", x.told(stop, 3), 2);
        checks.same("the walk without it", order(x), walk);
        checks.same("the length", answer, Integer.toString(x.left()));
    }

    private void lay() {
        int kind = random.nextInt(LEAST + 1);
        PickPaths x = again();
        String before = state(x);
        String answer = make(x, y -> y.walk(kind));
        checks.under("A walk is laid out: its length");
        if (answer.startsWith("throws")) {
            refused(answer, STATE, kind == LEAST && x.count(1) > 8, x, before);
            return;
        }
        checks.same("left", answer, Integer.toString(x.left()));
        checks.under("A WALK by a rule (KIND) is an order of all stops that are walked");
        TreeSet<Integer> laid = new TreeSet<>();
        for (int i = 0; i < x.count(2); i++) {
            laid.add(x.step(i));
        }
        TreeSet<Integer> walked = new TreeSet<>();
        for (int stop = 0; stop < x.count(0); stop++) {
            if (isWalked(x, stop)) {
                walked.add(stop);
            }
        }
        checks.same("all of them", laid.toString(), walked.toString());
        checks.same("each once", x.count(2), walked.size());
        checks.same("as many as are counted", x.count(1), walked.size());
        String order = order(x);
        checks.same("its length again", Integer.toString(x.walk(kind)), answer);
        checks.same("its order again", order(x), order);
        int length = x.left();
        if (x.count(1) <= 8) {
            checks.under("LEAST: the order with the least length");
            checks.same("none is less", Math.min(length, x.walk(LEAST)), x.left());
        }
    }

    private void loadCart() {
        int pieces = 1 + random.nextInt(200);
        PickPaths x = again();
        String walk = order(x);
        make(x, y -> {
            y.cart(pieces);
            return 0;
        });
        checks.under("full: before a stop whose pieces do not come into it any more .. the picker goes to the depot");
        int full = x.full();
        int size = x.count(2);
        x.cart(1000);
        checks.same("room for all", x.full(), x.left());
        x.cart(1);
        int most = size == 0 ? fromHereHome(x) : fromHere(x, x.step(0)) + fromDepot(x, x.step(0));
        for (int i = 1; i < size; i++) {
            most += 2 * fromDepot(x, x.step(i));
        }
        checks.same("room for no second one", x.full(), most);
        checks.same("between them", Math.max(x.left(), Math.min(most, full)), full);
        checks.same("the walk stays", order(x), walk);
    }

    private void lengths() {
        PickPaths x = again();
        checks.under("its LENGTH is from here to the first one, from each to the next one, from the last one to the depot");
        int size = x.count(2);
        int due = size == 0 ? fromHereHome(x) : fromHere(x, x.step(0)) + fromDepot(x, x.step(size - 1));
        for (int i = 1; i < size; i++) {
            due += x.far(x.step(i - 1), x.step(i));
        }
        checks.same("left", x.left(), due);
    }

    private void bounds() {
        PickPaths x = again();
        int due = 0;
        for (int stop = 0; stop < x.count(0); stop++) {
            if (isWalked(x, stop)) {
                due = Math.max(due, fromHere(x, stop) + fromDepot(x, stop));
            }
        }
        checks.under("bound: the way from here to it and on to the depot (of the one for which it is greatest)");
        int bound = x.bound();
        checks.same("bound", bound, due);
        checks.under("bound: A number that no walk of the stops that are walked is below");
        for (int kind = 0; kind <= LEAST; kind++) {
            if (kind < LEAST || x.count(1) <= 8) {
                int length = x.walk(kind);
                checks.same("kind " + kind, Math.max(bound, length), length);
                checks.same("a walk does not change it", x.bound(), bound);
            }
        }
    }

    private void shares() {
        PickPaths x = again();
        checks.under("A hundred times the way from here to a stop, divided by the metres that were walked");
        for (int stop = 0; stop < x.count(0); stop++) {
            int asked = stop;
            String due = x.count(5) == 0 ? "throws.ArithmeticException" : "" + 100 * fromHere(x, stop) / x.count(5);
            checks.same("share", Checks.outcome(() -> x.share(asked)), due);
        }
    }

    private void ways() {
        PickPaths x = again();
        checks.under("FAR: the least, over all cross aisles");
        int stops = x.count(0);
        int via = stops == 0 ? 0 : random.nextInt(stops);
        for (int a = 0; a < stops; a++) {
            checks.same("to itself", x.far(a, a), 0);
            int toVia = x.far(a, via);
            checks.same("both ways", x.far(via, a), toVia);
            checks.same("not more than by the depot", Math.min(toVia, fromDepot(x, a) + fromDepot(x, via)), toVia);
            int across = 3 * Math.abs(x.told(a, 0) - x.told(via, 0));
            checks.same("not less than along a cross aisle", Math.max(toVia, across), toVia);
            for (int b = 0; b < a; b++) {
                checks.same("not more than by another stop", Math.min(x.far(a, b), toVia + x.far(via, b)), x.far(a, b));
            }
        }
    }

    private void counts() {
        PickPaths x = again();
        checks.under("count: 0 stops, .. 3 aisles, 4 blocks, .. 6 done ones");
        checks.same("open, done and missing ones", inState(x, 0) + inState(x, 1) + inState(x, 2), x.count(0));
        checks.same("done ones", x.count(6), inState(x, 1));
        checks.same("aisles", x.count(3), aisles);
        checks.same("blocks", x.count(4), blocks);
        checks.under("Stop i of what is left of the walk that is laid out");
        int size = x.count(2);
        checks.refuses("behind the last one", INDEX, () -> x.step(size));
        checks.refuses("before the first one", INDEX, () -> x.step(-1));
    }

    private void change(int call) {
        int choice = random.nextInt(20);
        if (call < 3 || choice < 6) {
            addStop();
        } else if (choice < 10) {
            lay();
        } else if (choice < 14) {
            go();
        } else if (choice < 16) {
            close();
        } else if (choice < 18) {
            miss();
        } else {
            loadCart();
        }
    }

    private void run(int seed) {
        random = new Random(seed);
        aisles = 1 + random.nextInt(8);
        blocks = 1 + random.nextInt(3);
        changes.clear();
        for (int call = 0; call < CALLS; call++) {
            change(call);
            lengths();
            bounds();
        }
        counts();
        shares();
        ways();
    }

    private void runs() {
        for (int seed = 0; seed < RUNS; seed++) {
            run(seed);
        }
    }

    public static void main(String[] args) {
        RelationsTest test = new RelationsTest();
        test.runAll(test::runs);
    }
}
