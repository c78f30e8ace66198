import java.util.function.Supplier;
import java.util.function.ToIntFunction;

/** The paragraph REFUSALS: which exception each refused call throws, the first where two hold, and that nothing changes. */
public final class RefusalsTest extends Cases {
    /** Beside numbers that are refused only just, those at which arithmetic wraps around. */
    private static final int[] FAR_OFF = {MIN, MIN + 1, -1000, 1000, MAX - 1, MAX};

    /** An object in a state of its own, made anew for each call. */
    private Supplier<PickPaths> maker;

    private void refused(String what, Class<? extends RuntimeException> due, ToIntFunction<PickPaths> call) {
        PickPaths x = maker.get();
        String before = state(x);
        checks.refuses(what, due, () -> call.applyAsInt(x));
        checks.same(what + " leaves", state(x), before);
        checks.refuses(what + " again", due, () -> call.applyAsInt(x));
    }

    private void taken(String what, ToIntFunction<PickPaths> call, int due) {
        PickPaths x = maker.get();
        checks.same(what, Checks.outcome(() -> call.applyAsInt(x)), Integer.toString(due));
    }

    private static int cart(PickPaths x, int pieces) {
        x.cart(pieces);
        return 0;
    }

    /** Of ten stops two are done, one is missing, three are in a closed aisle (one of them without pieces). */
    private static PickPaths busy() {
        PickPaths x = floor(4, 2, 0, 3, 40, 1, 7, 40, 1, 12, 40, 2, 0, 40, 2, 19, 40, 3, 4, 0, 3, 5, 40, 3, 15, 40,
            0, 18, 40, 2, 9, 40);
        x.cart(90);
        x.missing(9);
        gone(x, 0, 2);
        x.closed(3, true);
        return x;
    }

    /** Nine stops that are walked, and room for one more. */
    private static PickPaths nine() {
        PickPaths x = alike(9, 2, 1, 1, 4, 50);
        x.walk(3);
        return x;
    }

    private void noSuchStop() {
        checks.under("NoSuchElementException: a stop that there is not");
        maker = RefusalsTest::busy;
        int[] wrong = {-1, 10, 11};
        for (int stop : wrong) {
            noSuchStopOf(stop);
        }
        for (int stop : FAR_OFF) {
            noSuchStopOf(stop);
        }
        taken("far of the first and the last one", x -> x.far(0, 9), 7 + 6 + 1);
        taken("told of the first one", x -> x.told(0, 1), 3);
        taken("told of the last one", x -> x.told(9, 1), 9);
        maker = RefusalsTest::nine;
        noSuchStopOf(9);
        taken("missing of the last one", x -> x.missing(8), 2 * 8);
        maker = () -> new PickPaths(8, 3);
        noSuchStopOf(0);
        noSuchStopOf(-1);
    }

    private void noSuchStopOf(int stop) {
        refused("missing(" + stop + ")", NO_SUCH, x -> x.missing(stop));
        refused("share(" + stop + ")", NO_SUCH, x -> x.share(stop));
        refused("far(" + stop + ", 0)", NO_SUCH, x -> x.far(stop, 0));
        refused("far(0, " + stop + ")", NO_SUCH, x -> x.far(0, stop));
        refused("told(" + stop + ", 0)", NO_SUCH, x -> x.told(stop, 0));
    }

    private void noSuchAisle() {
        checks.under("NoSuchElementException: or aisle that there is not");
        int[] wrong = {-1, 2, 3, 7, 8};
        maker = RefusalsTest::nine;
        for (int aisle : wrong) {
            noSuchAisleOf(aisle);
        }
        for (int aisle : FAR_OFF) {
            noSuchAisleOf(aisle);
        }
        taken("closed(0)", x -> x.closed(0, true), 0);
        taken("closed(1)", x -> x.closed(1, true), 9);
        taken("a stop in aisle 0", x -> x.stop(0, 0, 1), 9);
        taken("a stop in aisle 1", x -> x.stop(1, 0, 1), 9);
    }

    private void noSuchAisleOf(int aisle) {
        refused("closed(" + aisle + ", true)", NO_SUCH, x -> x.closed(aisle, true));
        refused("closed(" + aisle + ", false)", NO_SUCH, x -> x.closed(aisle, false));
        refused("stop(" + aisle + ", 0, 1)", NO_SUCH, x -> x.stop(aisle, 0, 1));
    }

    private void outsideItsRange() {
        checks.under("IllegalArgumentException: another number outside its range");
        maker = RefusalsTest::nine;
        for (int number : FAR_OFF) {
            refused("a stop at place " + number, ARGUMENT, x -> x.stop(0, number, 1));
            refused("a stop of pieces " + number, ARGUMENT, x -> x.stop(0, 0, number));
            refused("walk(" + number + ")", ARGUMENT, x -> x.walk(number));
            refused("told(0, " + number + ")", ARGUMENT, x -> x.told(0, number));
        }
        refused("a stop at place -1", ARGUMENT, x -> x.stop(0, -1, 1));
        refused("a stop at place 10", ARGUMENT, x -> x.stop(0, 10, 1));
        refused("a stop of pieces -1", ARGUMENT, x -> x.stop(0, 0, -1));
        refused("a stop of pieces 101", ARGUMENT, x -> x.stop(0, 0, 101));
        refused("walk(-1)", ARGUMENT, x -> x.walk(-1));
        refused("walk(5)", ARGUMENT, x -> x.walk(5));
        refused("told(0, -1)", ARGUMENT, x -> x.told(0, -1));
        refused("told(0, 5)", ARGUMENT, x -> x.told(0, 5));
        int[] rooms = {MIN, -1, 0, 1001, MAX};
        for (int room : rooms) {
            refused("cart(" + room + ")", ARGUMENT, x -> cart(x, room));
        }
        taken("the last place", x -> x.stop(0, 9, 100), 9);
        taken("no pieces", x -> x.stop(0, 0, 0), 9);
        taken("cart(1)", x -> cart(x, 1), 0);
        taken("cart(1000)", x -> cart(x, 1000), 0);
    }

    private void notAsItIsNow() {
        checks.under("IllegalStateException: not as it is now");
        maker = RefusalsTest::busy;
        refused("missing of a done one", STATE, x -> x.missing(x.count(7)));
        refused("missing of a missing one", STATE, x -> x.missing(9));
        maker = RefusalsTest::nine;
        refused("walk(4) of nine", STATE, x -> x.walk(4));
        maker = () -> new PickPaths(1, 1);
        refused("go without a walk", STATE, PickPaths::go);
        maker = () -> gone(floor(1, 1, 0, 9, 1), 0, 1);
        refused("go without a stop", STATE, PickPaths::go);
        maker = () -> {
            PickPaths x = nine();
            x.closed(1, true);
            return x;
        };
        refused("go to a closed aisle", STATE, PickPaths::go);
    }

    private void noRoom() {
        checks.under("UnsupportedOperationException: no room");
        maker = RefusalsTest::busy;
        refused("an 11th stop", NO_ROOM, x -> x.stop(0, 0, 1));
        refused("one without pieces", NO_ROOM, x -> x.stop(3, 19, 0));
        refused("one of a closed aisle", NO_ROOM, x -> x.stop(3, 0, 100));
        maker = RefusalsTest::nine;
        taken("a tenth one", x -> x.stop(0, 0, 1), 9);
    }

    private void theMachinesOwn() {
        checks.under("the machine's own");
        maker = RefusalsTest::nine;
        refused("step -1", INDEX, x -> x.step(-1));
        refused("step 9 of 9", INDEX, x -> x.step(9));
        for (int i : FAR_OFF) {
            refused("step " + i, INDEX, x -> x.step(i));
        }
        taken("step 8 of 9", x -> x.step(8), 8);
        refused("no metres", ARITHMETIC, x -> x.share(0));
        refused("no metres to the last one", ARITHMETIC, x -> x.share(8));
        maker = () -> new PickPaths(1, 1);
        refused("step 0 of none", INDEX, x -> x.step(0));
    }

    private void theFirstThatHoldsForAStop() {
        checks.under("REFUSALS, the first that holds: stop");
        maker = RefusalsTest::nine;
        refused("aisle and place", NO_SUCH, x -> x.stop(2, 10, 1));
        refused("aisle and pieces", NO_SUCH, x -> x.stop(-1, 0, 101));
        refused("aisle, place and pieces", NO_SUCH, x -> x.stop(2, -1, -1));
        refused("place and pieces", ARGUMENT, x -> x.stop(1, 10, 101));
        maker = RefusalsTest::busy;
        refused("aisle and room", NO_SUCH, x -> x.stop(4, 0, 1));
        refused("aisle, place and room", NO_SUCH, x -> x.stop(-1, 20, 1));
        refused("aisle, pieces and room", NO_SUCH, x -> x.stop(4, 0, -1));
        refused("aisle, place, pieces and room", NO_SUCH, x -> x.stop(4, -1, 101));
        refused("place and room", ARGUMENT, x -> x.stop(3, 20, 1));
        refused("place and room, below", ARGUMENT, x -> x.stop(3, -1, 1));
        refused("pieces and room", ARGUMENT, x -> x.stop(3, 19, 101));
        refused("pieces and room, below", ARGUMENT, x -> x.stop(3, 19, -1));
        refused("place, pieces and room", ARGUMENT, x -> x.stop(3, 20, 101));
    }

    private void theFirstThatHoldsForOthers() {
        checks.under("REFUSALS, the first that holds: told, walk, share");
        maker = RefusalsTest::busy;
        refused("told: stop and what", NO_SUCH, x -> x.told(10, 5));
        refused("told: stop and what, below", NO_SUCH, x -> x.told(-1, -1));
        maker = RefusalsTest::nine;
        refused("walk: kind and nine stops", ARGUMENT, x -> x.walk(5));
        refused("walk: kind and nine stops, below", ARGUMENT, x -> x.walk(-1));
        refused("share: stop and no metres", NO_SUCH, x -> x.share(9));
        refused("share: stop and no metres, below", NO_SUCH, x -> x.share(-1));
        maker = () -> new PickPaths(1, 1);
        refused("share: no stops and no metres", NO_SUCH, x -> x.share(0));
        refused("told: no stops and what", NO_SUCH, x -> x.told(0, 5));
    }

    public static void main(String[] args) {
        RefusalsTest test = new RefusalsTest();
        test.runAll(
            test::noSuchStop, test::noSuchAisle, test::outsideItsRange, test::notAsItIsNow, test::noRoom,
            test::theMachinesOwn, test::theFirstThatHoldsForAStop, test::theFirstThatHoldsForOthers);
    }
}
