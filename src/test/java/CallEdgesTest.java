/** The boundary cases that stand in the promises themselves. A method a sentence. */
public final class CallEdgesTest extends Cases {
    /** A stop is added and gone to, whatever was laid out before. */
    private static void goTo(PickPaths x, int aisle, int place) {
        x.stop(aisle, place, 1);
        gone(x, 0, 1);
    }

    private void aNewObject() {
        checks.under("Promise 1: No stops; no walk");
        PickPaths x = new PickPaths(8, 3);
        checks.same("all of it", state(x), "walk , left 0, full 0, bound 0, counts 0 0 0 8 3 0 0 -1");
        checks.refuses("no stop 0", NO_SUCH, () -> x.told(0, 0));
        checks.refuses("no step 0", INDEX, () -> x.step(0));
        checks.refuses("nowhere to go", STATE, x::go);
        for (int aisle = 0; aisle < 8; aisle++) {
            x.stop(aisle, 0, 1);
        }
        checks.same("no aisle is closed", x.count(1), 8);
        checks.same("stops alone are no walk", x.count(2), 0);
        checks.same("and no way", x.left(), 0);
    }

    private void aNewCart() {
        checks.under("Promise 1: a cart for 100 pieces");
        checks.same("100", gone(floor(1, 1, 0, 1, 60, 0, 4, 40), 1, 0).full(), 10);
        checks.same("101", gone(floor(1, 1, 0, 1, 60, 0, 4, 41), 1, 0).full(), 4 + 10);
        checks.same("99", gone(floor(1, 1, 0, 1, 60, 0, 4, 39), 1, 0).full(), 10);
    }

    private void aStopsNumber() {
        checks.under("Promise 2: A stop: its number");
        PickPaths x = new PickPaths(2, 1);
        checks.same("the first one", x.stop(1, 9, 1), 0);
        checks.refuses("a refused one", ARGUMENT, () -> x.stop(1, 10, 1));
        checks.same("takes no number", x.stop(1, 9, 0), 1);
        x.missing(1);
        x.closed(0, true);
        checks.same("a missing one keeps its own; a closed aisle takes stops", x.stop(0, 9, 1), 2);
        checks.same("which are open", x.told(2, 3), 0);
        checks.same("and not walked", x.told(2, 4), 0);
    }

    private void openStopsOfAnAisle() {
        checks.under("Promise 3: how many open stops (with pieces or not) are in it");
        checks.same("none", new PickPaths(1, 1).closed(0, true), 0);
        checks.same("ten", alike(10, 8, 1, 7, 0, 0).closed(7, true), 10);
        checks.same("none beside them", alike(10, 8, 1, 7, 0, 0).closed(6, true), 0);
        PickPaths x = floor(2, 1, 0, 0, 1, 0, 1, 0, 0, 2, 1, 1, 3, 1);
        checks.same("with and without pieces", x.closed(0, true), 3);
        checks.same("closed anew", x.closed(0, true), 3);
        checks.same("opened", x.closed(0, false), 3);
        checks.same("opened anew", x.closed(0, false), 3);
        x.missing(1);
        checks.same("not a missing one", x.closed(0, true), 2);
        x.closed(0, false);
        gone(x, 0, 1);
        checks.same("not a done one", x.closed(0, true), 1);
        x.missing(2);
        checks.same("none is left", x.closed(0, true), 0);
    }

    private void aislesToClose() {
        checks.under("Promise 3: An aisle is closed, or open");
        for (int aisles = 1; aisles <= 8; aisles++) {
            PickPaths x = floor(aisles, 1, aisles - 1, 0, 1);
            int behind = aisles;
            checks.same("the last one", x.closed(aisles - 1, true), 1);
            checks.same("its stop is not walked", x.count(1), 0);
            checks.refuses("one behind it", NO_SUCH, () -> x.closed(behind, false));
            checks.refuses("-1", NO_SUCH, () -> x.closed(-1, false));
            checks.refuses("MIN", NO_SUCH, () -> x.closed(MIN, false));
            checks.refuses("MAX", NO_SUCH, () -> x.closed(MAX, false));
            checks.same("it is still closed", x.count(1), 0);
            checks.same("opened", x.closed(aisles - 1, false), 1);
            checks.same("its stop is walked", x.count(1), 1);
        }
    }

    private void closingLeavesTheWalk() {
        checks.under("Promise 3: closing lays nothing out anew");
        PickPaths x = gone(floor(2, 1, 0, 4, 1, 1, 4, 1), 0, 0);
        x.closed(1, true);
        checks.same("both are left", order(x), "0 1");
        x.walk(0);
        x.closed(1, false);
        checks.same("one is left", order(x), "0");
    }

    private void kindsOfWalk() {
        checks.under("Promise 4: IllegalArgumentException: no such kind");
        PickPaths x = floor(1, 1, 0, 4, 1);
        checks.same("kind 0", x.walk(0), 10);
        checks.same("kind 4", x.walk(4), 10);
        int[] wrong = {-1, 5, MIN, MAX};
        for (int kind : wrong) {
            checks.refuses("kind " + kind, ARGUMENT, () -> x.walk(kind));
            checks.refuses("kind " + kind + " of no stops", ARGUMENT, () -> new PickPaths(1, 1).walk(kind));
        }
        checks.same("the walk is still there", order(x), "0");
    }

    private void stepsOfAWalk() {
        checks.under("Promise 5: Stop i of what is left; ArrayIndexOutOfBoundsException: there is none");
        PickPaths x = alike(10, 1, 1, 0, 4, 1);
        checks.refuses("before a walk", INDEX, () -> x.step(0));
        x.walk(0);
        int[] wrong = {-1, -10, 10, 11, MIN, MAX};
        for (int i : wrong) {
            checks.refuses("step " + i + " of 10", INDEX, () -> x.step(i));
        }
        checks.same("the first one", x.step(0), 0);
        checks.same("the last one", x.step(9), 9);
        x.go();
        checks.same("the first one of 9", x.step(0), 1);
        checks.same("the last one of 9", x.step(8), 9);
        checks.refuses("step 9 of 9", INDEX, () -> x.step(9));
        x.missing(9);
        checks.same("the last one of 8", x.step(7), 8);
        checks.refuses("step 8 of 8", INDEX, () -> x.step(8));
        x.closed(0, true);
        checks.same("a closed one is still in it", x.step(7), 8);
        x.walk(0);
        checks.refuses("of a walk of none", INDEX, () -> x.step(0));
    }

    private void goWithoutAStop() {
        checks.under("Promise 6: IllegalStateException: the walk has none");
        PickPaths x = floor(1, 1, 0, 4, 1, 0, 9, 1);
        checks.refuses("no walk", STATE, x::go);
        x.walk(0);
        checks.same("2 left", x.go(), 0);
        checks.same("1 left", x.go(), 1);
        checks.refuses("0 left", STATE, x::go);
        x.stop(0, 2, 1);
        checks.refuses("a new stop is in no walk", STATE, x::go);
        x.walk(0);
        x.missing(2);
        checks.refuses("the only one is missing", STATE, x::go);
        x.walk(0);
        checks.refuses("a walk of none", STATE, x::go);
        checks.same("metres of two", x.count(5), 10);
    }

    private void goToAClosedAisle() {
        checks.under("Promise 6: IllegalStateException: or that stop's aisle is closed");
        PickPaths x = gone(floor(2, 1, 0, 4, 1, 1, 4, 1, 1, 6, 1), 1, 0);
        x.closed(0, true);
        checks.refuses("the first one's", STATE, x::go);
        checks.same("it stays the first one", order(x), "0 1 2");
        checks.same("it stays open", x.told(0, 3), 0);
        checks.same("nobody has walked", x.count(5), 0);
        x.closed(0, false);
        x.closed(1, true);
        checks.same("another one's does not matter", x.go(), 0);
        checks.refuses("now it does", STATE, x::go);
        x.closed(1, false);
        x.closed(0, true);
        checks.same("that of here does not matter", x.go(), 1);
        checks.same("both ways", x.count(5), 5 + 13);
        x.closed(1, true);
        checks.refuses("that of here and of the next one", STATE, x::go);
        x.missing(2);
        checks.refuses("none is left", STATE, x::go);
    }

    private void goChanges() {
        checks.under("Promise 6: which; it is done, here is there, and the walk has one less");
        PickPaths x = gone(alike(10, 8, 3, 7, 29, 100), 3, 0);
        for (int i = 0; i < 10; i++) {
            checks.same("which", x.go(), i);
            checks.same("it is done", x.told(i, 3), 1);
            checks.same("here is there", x.count(7), i);
            checks.same("one less", x.count(2), 9 - i);
            checks.same("one more is done", x.count(6), i + 1);
            checks.same("metres", x.count(5), 53);
        }
        checks.refuses("an 11th time", STATE, x::go);
    }

    private void missingOnes() {
        checks.under("Promise 7: An open stop is missing: the length of what is left, without it");
        PickPaths x = gone(floor(2, 1, 0, 1, 1, 0, 4, 1, 0, 8, 1, 0, 9, 0, 1, 9, 1), 1, 0);
        checks.same("all", x.left(), 9 + 6 + 13);
        checks.same("the last one", x.missing(4), 18);
        checks.same("one that is not in the walk", x.missing(3), 18);
        checks.same("the one between", x.missing(1), 18);
        checks.same("the first one", x.missing(0), 18);
        checks.same("the only one", x.missing(2), 0);
        checks.same("none is left", x.count(2), 0);
        PickPaths y = gone(floor(2, 2, 1, 0, 1, 1, 19, 1), 1, 1);
        y.closed(1, true);
        checks.same("in a closed aisle, from here", y.missing(1), 4);
        PickPaths z = alike(10, 1, 1, 0, 9, 1);
        checks.same("before a walk", z.missing(9), 0);
    }

    private void missingIfNotOpen() {
        checks.under("Promise 7: IllegalStateException: it is not open");
        PickPaths x = gone(floor(1, 1, 0, 1, 1, 0, 4, 1, 0, 8, 0), 1, 1);
        checks.refuses("done", STATE, () -> x.missing(0));
        checks.same("open", x.missing(1), 2);
        checks.refuses("missing", STATE, () -> x.missing(1));
        checks.same("open without pieces", x.missing(2), 2);
        checks.refuses("missing without pieces", STATE, () -> x.missing(2));
        checks.same("one is done, two are missing", x.told(0, 3) + x.told(1, 3) + x.told(2, 3), 5);
    }

    private void missingLaysNothingOut() {
        checks.under("Promise 7: nothing is laid out anew");
        PickPaths x = gone(floor(1, 1, 0, 4, 1, 0, 8, 1, 0, 1, 1), 4, 0);
        checks.same("by numbers", order(x), "0 1 2");
        x.stop(0, 5, 1);
        checks.same("the one between", x.missing(1), 5 + 3 + 2);
        checks.same("the others as they were", order(x), "0 2");
        PickPaths through = gone(floor(3, 1, 0, 0, 1, 1, 5, 1, 2, 1, 1, 2, 8, 1), 0, 0);
        checks.same("aisle 1 has none any more", through.missing(1), 1 + 9 + 7 + 15);
        checks.same("aisle 2 is upward still", order(through), "0 2 3");
    }

    private void whatIsLeft() {
        checks.under("Promise 8: The length of what is left of the walk that is laid out, from here");
        PickPaths x = floor(3, 1, 2, 0, 1, 2, 9, 1);
        checks.same("no walk", x.left(), 0);
        x.walk(1);
        checks.same("two stops", x.left(), 7 + 9 + 16);
        x.go();
        checks.same("one stop", x.left(), 9 + 16);
        x.closed(2, true);
        checks.same("though it is closed", x.left(), 9 + 16);
        x.closed(2, false);
        x.go();
        checks.same("no stop", x.left(), 16);
        x.stop(0, 9, 1);
        checks.same("a new stop is not in it", x.left(), 16);
    }

    private void boundOfNone() {
        checks.under("Promise 9: 0 if there are none");
        checks.same("no stops", new PickPaths(8, 3).bound(), 0);
        checks.same("none with pieces", floor(8, 3, 7, 29, 0).bound(), 0);
        PickPaths x = floor(8, 3, 7, 29, 1);
        x.closed(7, true);
        checks.same("closed", x.bound(), 0);
        x.closed(7, false);
        gone(x, 0, 1);
        checks.same("done, and here is not the depot", x.bound(), 0);
        x.stop(7, 29, 1);
        checks.same("one more at here", x.bound(), 53);
        x.missing(1);
        checks.same("missing, and here is not the depot", x.bound(), 0);
    }

    private void boundAtTheDepot() {
        checks.under("Promise 9: twice the way from the depot to the farthest one if here is the depot");
        checks.same("the nearest place", floor(1, 1, 0, 0, 1).bound(), 2);
        checks.same("the farthest place", floor(8, 3, 7, 29, 1).bound(), 106);
        checks.same("the first of two", floor(2, 1, 0, 9, 1, 1, 5, 1).bound(), 20);
        checks.same("the second of two", floor(2, 1, 0, 8, 1, 1, 6, 1).bound(), 20);
        checks.same("two equal ones", floor(2, 1, 0, 9, 1, 1, 6, 1).bound(), 20);
        PickPaths x = floor(2, 1, 0, 9, 0, 1, 9, 1, 0, 8, 1, 0, 2, 1);
        x.closed(1, true);
        x.missing(2);
        checks.same("of those that are walked", x.bound(), 6);
    }

    private void boundElsewhere() {
        checks.under("Promise 9: else the way from here to it and on to the depot (the one for which it is greatest)");
        PickPaths x = gone(floor(2, 1, 1, 9, 1), 0, 1);
        x.stop(1, 0, 1);
        checks.same("the farthest from here", x.bound(), 9 + 4);
        x.stop(0, 9, 1);
        checks.same("one that is nearer, but farther from the depot", x.bound(), 5 + 10);
        x.stop(1, 9, 1);
        checks.same("one at here", x.bound(), 15);
        x.missing(2);
        checks.same("the greatest of the others", x.bound(), 13);
        checks.same("no walk is below", x.walk(4), 9 + 4);
    }

    private void roomOfACart() {
        checks.under("Promise 10: 1 .. 1000. IllegalArgumentException");
        PickPaths x = gone(alike(10, 1, 1, 0, 9, 100), 0, 0);
        int[] wrong = {0, -1, 1001, MIN, MAX};
        x.cart(1000);
        checks.same("1000", x.full(), 20);
        for (int pieces : wrong) {
            checks.refuses("cart " + pieces, ARGUMENT, () -> {
                x.cart(pieces);
                return 0;
            });
            checks.same("1000 still", x.full(), 20);
        }
        x.cart(999);
        checks.same("999", x.full(), 40);
        x.cart(1);
        checks.same("1", x.full(), 200);
        PickPaths ones = gone(floor(1, 1, 0, 9, 1, 0, 9, 1), 0, 0);
        ones.cart(2);
        checks.same("2 of 2", ones.full(), 20);
        ones.cart(1);
        checks.same("1 of 2", ones.full(), 40);
    }

    private void aCartStays() {
        checks.under("Promise 10: A cart has room for so many pieces (until another one is told)");
        PickPaths x = alike(9, 2, 1, 0, 9, 30);
        x.cart(60);
        x.walk(1);
        checks.same("a walk", x.full(), 5 * 20);
        x.go();
        checks.same("a stop that is done", x.full(), 4 * 20 - 10);
        x.missing(8);
        x.missing(7);
        checks.same("missing ones", x.full(), 3 * 20 - 10);
        x.closed(1, true);
        x.stop(0, 9, 30);
        checks.same("a closed aisle, a new stop", x.full(), 3 * 20 - 10);
        x.walk(0);
        checks.same("another walk", x.full(), 4 * 20 - 10);
        x.cart(59);
        checks.same("another cart", x.full(), 7 * 20 - 10);
    }

    private void fullOfNone() {
        checks.under("Promise 11: The length of what is left of the walk (without a stop)");
        checks.same("no walk", floor(1, 1, 0, 9, 100).full(), 0);
        checks.same("a walk of none", gone(floor(1, 1, 0, 9, 0), 0, 0).full(), 0);
        checks.same("none is left", gone(floor(8, 3, 7, 29, 100), 0, 1).full(), 53);
    }

    private void fullAtItsRoom() {
        checks.under("Promise 11: before a stop whose pieces do not come into it any more");
        PickPaths x = gone(floor(1, 1, 0, 1, 5, 0, 4, 50, 0, 8, 5), 1, 0);
        int[][] rooms = {{61, 18}, {60, 18}, {59, 28}, {55, 28}, {54, 32}, {50, 32}, {49, 32}, {5, 32}, {4, 32}, {1, 32}};
        for (int[] room : rooms) {
            x.cart(room[0]);
            checks.same("room for " + room[0], x.full(), room[1]);
        }
        checks.same("the walk itself stays", x.left(), 18);
        checks.same("nobody goes", x.count(7), -1);
        PickPaths y = gone(floor(2, 1, 0, 9, 60, 1, 9, 60), 0, 0);
        checks.same("one comes from the depot", y.full(), 10 + 10 + 13 + 13);
    }

    private void fullOfTheFirstOne() {
        checks.under("Promise 11: and that is not the first one with this load");
        PickPaths x = gone(floor(1, 1, 0, 4, 100), 0, 0);
        x.cart(1);
        checks.same("the only one", x.full(), 10);
        x.stop(0, 9, 100);
        gone(x, 0, 1);
        checks.same("the first one from here", x.full(), 5 + 10);
        PickPaths y = gone(floor(1, 1, 0, 1, 100, 0, 4, 100, 0, 8, 100), 1, 0);
        y.cart(99);
        checks.same("each is the first one", y.full(), 4 + 10 + 18);
        PickPaths z = gone(floor(1, 1, 0, 1, 60, 0, 4, 50, 0, 8, 50), 1, 0);
        checks.same("a new load is counted anew", z.full(), 4 + 5 + 4 + 9);
        PickPaths over = gone(floor(1, 1, 0, 1, 60, 0, 4, 50, 0, 8, 51), 1, 0);
        checks.same("and has the same room", over.full(), 4 + 10 + 18);
    }

    private void fullFromHere() {
        checks.under("Promise 11: with the cart, empty here");
        PickPaths x = gone(floor(1, 1, 0, 1, 60, 0, 4, 60, 0, 8, 40), 1, 0);
        checks.same("from the depot", x.full(), 4 + 5 + 4 + 9);
        x.go();
        checks.same("what was taken before is not in it", x.full(), 3 + 4 + 9);
        x.cart(99);
        checks.same("room for one piece less", x.full(), 3 + 5 + 9 + 9);
        x.missing(1);
        checks.same("a missing one has no pieces in it", x.full(), 7 + 9);
        x.closed(0, true);
        checks.same("closed aisles are not asked", x.full(), 7 + 9);
    }

    private void shareOfNoMetres() {
        checks.under("Promise 12: ArithmeticException: none were");
        PickPaths x = floor(1, 1, 0, 0, 1, 0, 9, 1);
        checks.refuses("at first", ARITHMETIC, () -> x.share(0));
        x.walk(0);
        checks.refuses("laid out", ARITHMETIC, () -> x.share(1));
        x.closed(0, true);
        checks.refuses("not gone", STATE, x::go);
        checks.refuses("still none", ARITHMETIC, () -> x.share(1));
        x.closed(0, false);
        x.go();
        checks.same("one metre", x.share(1), 900);
    }

    private void shareDropsRests() {
        checks.under("Promise 12: divided by the metres that were walked (rests are dropped)");
        PickPaths x = gone(floor(1, 1, 0, 2, 1, 0, 3, 0, 0, 4, 0, 0, 5, 0, 0, 6, 0), 0, 1);
        int[] due = {0, 33, 66, 100, 133};
        for (int stop = 0; stop < due.length; stop++) {
            checks.same(stop + " of 3 metres", x.share(stop), due[stop]);
        }
        PickPaths y = new PickPaths(1, 3);
        goTo(y, 0, 0);
        goTo(y, 0, 29);
        goTo(y, 0, 0);
        goTo(y, 0, 29);
        goTo(y, 0, 23);
        checks.same("metres", y.count(5), 100);
        checks.same("one of 100", y.share(y.stop(0, 22, 0)), 1);
        goTo(y, 0, 22);
        checks.same("one more", y.count(5), 101);
        checks.same("one of 101", y.share(y.stop(0, 21, 0)), 0);
    }

    private void shareOfAnyStop() {
        checks.under("Promise 12: the way from here to a stop (whatever it is)");
        PickPaths x = gone(floor(2, 1, 0, 0, 1, 0, 4, 0, 1, 4, 1, 0, 9, 1), 0, 1);
        x.missing(3);
        x.closed(1, true);
        checks.same("done, and here", x.share(0), 0);
        checks.same("without pieces", x.share(1), 400);
        checks.same("closed", x.share(2), 900);
        checks.same("missing", x.share(3), 900);
        checks.refuses("-1", NO_SUCH, () -> x.share(-1));
        checks.refuses("behind the last one", NO_SUCH, () -> x.share(4));
        checks.refuses("the depot is none", NO_SUCH, () -> x.share(10));
    }

    private void farOfAnyStops() {
        checks.under("Promise 13: between two stops (whatever they are; closed aisles are not asked)");
        PickPaths x = gone(floor(2, 1, 0, 0, 1, 0, 4, 0, 1, 4, 1, 0, 9, 1), 0, 1);
        x.missing(3);
        x.closed(0, true);
        x.closed(1, true);
        checks.same("done and missing", x.far(0, 3), 9);
        checks.same("without pieces and closed", x.far(1, 2), 13);
        checks.same("one and the same", x.far(3, 3), 0);
        PickPaths ten = alike(10, 1, 1, 0, 9, 1);
        checks.same("the last number", ten.far(9, 0), 0);
        int[] wrong = {-1, 10, 11, MIN, MAX};
        for (int stop : wrong) {
            checks.refuses("from " + stop, NO_SUCH, () -> ten.far(stop, 0));
            checks.refuses("to " + stop, NO_SUCH, () -> ten.far(9, stop));
            checks.refuses("both " + stop, NO_SUCH, () -> ten.far(stop, stop));
        }
    }

    private void toldOfAStop() {
        checks.under("Promise 14: Of a stop 0 its aisle, .. 4 whether it is walked. NoSuch.., IllegalArgumentException");
        PickPaths x = floor(8, 3, 7, 29, 100);
        checks.same("0", x.told(0, 0), 7);
        checks.same("1", x.told(0, 1), 29);
        checks.same("2", x.told(0, 2), 100);
        checks.same("3", x.told(0, 3), 0);
        checks.same("4", x.told(0, 4), 1);
        int[] wrong = {-1, 5, MIN, MAX};
        for (int number : wrong) {
            checks.refuses("what " + number, ARGUMENT, () -> x.told(0, number));
            checks.refuses("stop " + number, NO_SUCH, () -> x.told(number, 0));
        }
        checks.refuses("stop 1 of one", NO_SUCH, () -> x.told(1, 0));
        PickPaths ten = alike(10, 8, 3, 7, 29, 100);
        checks.same("stop 9 of ten", ten.told(9, 1), 29);
        checks.refuses("stop 10 of ten", NO_SUCH, () -> ten.told(10, 1));
    }

    private void countOfNothing() {
        checks.under("Promise 15: -1 for another what");
        PickPaths x = gone(alike(10, 8, 3, 7, 29, 100), 0, 1);
        int[] due = {10, 9, 9, 8, 3, 53, 1, 0};
        for (int what = 0; what < due.length; what++) {
            checks.same("count " + what, x.count(what), due[what]);
        }
        int[] others = {-1, 8, 9, 100, MIN, MAX};
        for (int what : others) {
            checks.same("count " + what, x.count(what), -1);
        }
    }

    private void countOfHere() {
        checks.under("Promise 15: 7 the stop that is here (-1: the depot)");
        PickPaths x = gone(alike(10, 1, 1, 0, 0, 1), 0, 0);
        checks.same("the depot", x.count(7), -1);
        for (int i = 0; i < 10; i++) {
            x.go();
            checks.same("stop " + i, x.count(7), i);
        }
    }

    private void callsOfOneObject() {
        checks.under("An object is used for at most 512 calls after it has been made");
        PickPaths x = alike(10, 8, 3, 7, 29, 100);
        for (int call = 11; call <= 512; call++) {
            checks.same("call " + call, x.walk(call % 4), 106);
        }
        PickPaths y = new PickPaths(1, 1);
        for (int call = 1; call <= 510; call++) {
            checks.refuses("call " + call, NO_SUCH, () -> y.closed(1, true));
        }
        checks.same("call 511", y.stop(0, 9, 1), 0);
        checks.same("call 512", y.walk(4), 20);
        PickPaths z = alike(8, 8, 3, 7, 29, 100);
        for (int call = 9; call <= 512; call++) {
            checks.same("call " + call, z.walk(4), 106);
        }
    }

    public static void main(String[] args) {
        CallEdgesTest test = new CallEdgesTest();
        test.runAll(
            test::aNewObject, test::aNewCart, test::aStopsNumber, test::openStopsOfAnAisle, test::aislesToClose,
            test::closingLeavesTheWalk, test::kindsOfWalk, test::stepsOfAWalk, test::goWithoutAStop,
            test::goToAClosedAisle, test::goChanges, test::missingOnes, test::missingIfNotOpen,
            test::missingLaysNothingOut, test::whatIsLeft, test::boundOfNone, test::boundAtTheDepot,
            test::boundElsewhere, test::roomOfACart, test::aCartStays, test::fullOfNone, test::fullAtItsRoom,
            test::fullOfTheFirstOne, test::fullFromHere, test::shareOfNoMetres, test::shareDropsRests,
            test::shareOfAnyStop, test::farOfAnyStops, test::toldOfAStop, test::countOfNothing,
            test::countOfHere, test::callsOfOneObject);
    }
}
