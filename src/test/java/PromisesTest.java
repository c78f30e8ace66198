/** Each promise of the document by its number; the answers were worked out by hand. */
public final class PromisesTest extends Cases {
    private void promise1() {
        int[][] sizes = {{0, 0, 1, 1}, {-5, -1, 1, 1}, {1, 1, 1, 1}, {8, 3, 8, 3}, {9, 4, 8, 3},
            {MAX, MIN, 8, 1}, {MIN, MAX, 1, 3}, {5, 2, 5, 2}};
        for (int[] size : sizes) {
            PickPaths x = new PickPaths(size[0], size[1]);
            checks.same("1: aisles of " + size[0], x.count(3), size[2]);
            checks.same("1: blocks of " + size[1], x.count(4), size[3]);
            int last = size[2] - 1;
            int back = 10 * size[3] - 1;
            checks.same("1: the last place", x.stop(last, back, 1), 0);
            checks.refuses("1: behind the last aisle", NO_SUCH, () -> x.stop(last + 1, 0, 1));
            checks.refuses("1: behind the last place", ARGUMENT, () -> x.stop(0, back + 1, 1));
        }
        PickPaths x = new PickPaths(3, 2);
        checks.same("1: no stops", x.count(0), 0);
        checks.same("1: none walked", x.count(1), 0);
        checks.same("1: no walk", x.count(2), 0);
        checks.same("1: no metres", x.count(5), 0);
        checks.same("1: none done", x.count(6), 0);
        checks.same("1: at the depot", x.count(7), -1);
        checks.same("1: nothing left", x.left(), 0);
        checks.same("1: nothing left with a cart", x.full(), 0);
        checks.refuses("1: no step", INDEX, () -> x.step(0));
        checks.refuses("1: nowhere to go", STATE, x::go);
        PickPaths fits = floor(1, 1, 0, 1, 60, 0, 4, 40);
        fits.walk(1);
        checks.same("1: the cart takes 100", fits.full(), 10);
        PickPaths over = floor(1, 1, 0, 1, 60, 0, 4, 41);
        over.walk(1);
        checks.same("1: the cart takes no 101", over.full(), 14);
        PickPaths other = floor(1, 1, 0, 0, 1);
        checks.same("1: objects are apart", new PickPaths(1, 1).count(0) + other.count(0), 1);
    }

    private void promise2() {
        PickPaths x = new PickPaths(4, 2);
        checks.refuses("2: aisle -1", NO_SUCH, () -> x.stop(-1, 0, 1));
        checks.refuses("2: aisle 4", NO_SUCH, () -> x.stop(4, 0, 1));
        checks.refuses("2: aisle MIN", NO_SUCH, () -> x.stop(MIN, 0, 1));
        checks.refuses("2: aisle MAX", NO_SUCH, () -> x.stop(MAX, 0, 1));
        checks.refuses("2: aisle before place", NO_SUCH, () -> x.stop(4, 20, 101));
        checks.refuses("2: place -1", ARGUMENT, () -> x.stop(0, -1, 1));
        checks.refuses("2: place 20", ARGUMENT, () -> x.stop(0, 20, 1));
        checks.refuses("2: place MAX", ARGUMENT, () -> x.stop(0, MAX, 1));
        checks.refuses("2: pieces -1", ARGUMENT, () -> x.stop(0, 0, -1));
        checks.refuses("2: pieces 101", ARGUMENT, () -> x.stop(0, 0, 101));
        checks.same("2: refused ones are none", x.count(0), 0);
        checks.same("2: first", x.stop(3, 19, 100), 0);
        checks.same("2: one walked", x.walk(0), 30 + 30);
        checks.same("2: no pieces", x.stop(3, 19, 0), 1);
        x.closed(2, true);
        checks.same("2: in a closed aisle", x.stop(2, 0, 1), 2);
        checks.same("2: it comes into no walk by itself", order(x), "0");
        for (int i = 3; i < 10; i++) {
            checks.same("2: number", x.stop(0, 0, 1), i);
        }
        checks.refuses("2: an 11th", NO_ROOM, () -> x.stop(0, 0, 1));
        checks.refuses("2: no room, no aisle", NO_SUCH, () -> x.stop(4, 0, 1));
        checks.refuses("2: no room, no place", ARGUMENT, () -> x.stop(0, 20, 1));
        checks.refuses("2: no room, pieces", ARGUMENT, () -> x.stop(0, 0, 101));
        x.missing(5);
        checks.refuses("2: a missing one keeps its number", NO_ROOM, () -> x.stop(0, 0, 1));
        checks.same("2: ten stops", x.count(0), 10);
    }

    private void promise3() {
        PickPaths x = floor(3, 1, 1, 3, 5, 1, 4, 0, 1, 5, 5, 1, 6, 5, 2, 0, 5);
        checks.refuses("3: aisle -1", NO_SUCH, () -> x.closed(-1, true));
        checks.refuses("3: aisle 3", NO_SUCH, () -> x.closed(3, false));
        checks.refuses("3: aisle MAX", NO_SUCH, () -> x.closed(MAX, true));
        checks.same("3: an empty aisle", x.closed(0, true), 0);
        checks.same("3: with pieces or not", x.closed(1, true), 4);
        checks.same("3: closed again", x.closed(1, true), 4);
        checks.same("3: one is walked", x.count(1), 1);
        checks.same("3: opened", x.closed(1, false), 4);
        checks.same("3: four are walked", x.count(1), 4);
        x.missing(3);
        x.walk(1);
        checks.same("3: to the first", x.go(), 0);
        checks.same("3: without done and missing ones", x.closed(1, false), 2);
        x.closed(2, true);
        checks.same("3: a closed aisle is left out", x.walk(1), 2 + 6 + 3);
        checks.same("3: the only one", order(x), "2");
    }

    private void promise4ByAisles() {
        int[] stops = {3, 5, 1, 1, 7, 1, 3, 1, 1, 5, 8, 1, 3, 5, 1, 1, 2, 1, 5, 4, 1, 0, 0, 0};
        laysOut("4: through", floor(6, 1, stops), 0, "5 1 0 4 2 6 3", 70);
        laysOut("4: there and back", floor(6, 1, stops), 1, "5 1 2 0 4 6 3", 76);
        laysOut("4: gap at the back", floor(6, 1, stops), 2, "5 1 3 6 2 0 4", 64);
        laysOut("4: equal gaps", floor(3, 1, 0, 0, 1, 1, 3, 1, 1, 7, 1, 2, 0, 1), 2, "0 2 1 3", 32);
        laysOut("4: gaps between stops",
            floor(4, 2, 0, 5, 1, 1, 1, 1, 1, 14, 1, 1, 19, 1, 2, 2, 1, 2, 18, 1, 3, 9, 1), 2, "0 3 2 5 6 4 1", 78);
        laysOut("4: back ones of one place", floor(3, 1, 1, 9, 1, 1, 9, 1, 0, 0, 1, 2, 0, 1, 1, 8, 1),
            2, "2 0 1 4 3", 1 + 14 + 0 + 1 + 13 + 7);
        laysOut("4: last ones of one place", floor(2, 1, 1, 3, 1, 1, 3, 1, 0, 0, 1), 2, "2 0 1", 1 + 8 + 0 + 7);
        laysOut("4: one aisle by gaps", floor(8, 1, 4, 6, 1, 4, 1, 1, 4, 6, 1), 2, "1 0 2", 14 + 5 + 19);
    }

    private void promise4ByWays() {
        laysOut("4: nearest", floor(3, 1, 0, 5, 1, 1, 2, 1, 0, 0, 1), 3, "2 0 1", 1 + 5 + 12 + 6);
        laysOut("4: equally near", floor(3, 1, 0, 5, 1, 1, 2, 1), 3, "0 1", 6 + 12 + 6);
        laysOut("4: equally near, the others", floor(3, 1, 1, 2, 1, 0, 5, 1), 3, "0 1", 6 + 12 + 6);
        laysOut("4: least of equal ones", floor(1, 1, 0, 4, 1, 0, 1, 1, 0, 7, 1), 4, "0 2 1", 16);
        laysOut("4: two equal orders", floor(1, 1, 0, 8, 1, 0, 2, 1), 4, "0 1", 18);
        laysOut("4: least is less than nearest", floor(1, 1, 0, 4, 1, 0, 1, 1), 4, "0 1", 10);
        PickPaths x = floor(1, 1, 0, 4, 1, 0, 1, 1, 0, 7, 1);
        x.walk(4);
        x.go();
        laysOut("4: least from here", x, 4, "2 1", 11);
        laysOut("4: nearest from here", x, 3, "1 2", 17);
    }

    private void promise4Refusals() {
        PickPaths x = new PickPaths(8, 3);
        for (int kind = 0; kind <= 4; kind++) {
            laysOut("4: no stops, kind " + kind, x, kind, "", 0);
        }
        for (int i = 0; i < 9; i++) {
            x.stop(0, 9 - i, 1);
        }
        checks.refuses("4: kind -1", ARGUMENT, () -> x.walk(-1));
        checks.refuses("4: kind 5", ARGUMENT, () -> x.walk(5));
        checks.refuses("4: kind MIN", ARGUMENT, () -> x.walk(MIN));
        checks.refuses("4: kind MAX", ARGUMENT, () -> x.walk(MAX));
        laysOut("4: nine", x, 1, "8 7 6 5 4 3 2 1 0", 20);
        checks.refuses("4: nine by kind 4", STATE, () -> x.walk(4));
        checks.same("4: the earlier walk stays", order(x), "8 7 6 5 4 3 2 1 0");
        x.stop(1, 0, 5);
        laysOut("4: ten", x, 0, "8 7 6 5 4 3 2 1 0 9", 10 + 14 + 4);
        x.closed(1, true);
        x.missing(0);
        laysOut("4: eight by kind 4", x, 4, "1 2 3 4 5 6 7 8", 18);
        x.go();
        laysOut("4: seven from here", x, 4, "2 3 4 5 6 7 8", 9);
    }

    private void promise5() {
        PickPaths x = floor(1, 1, 0, 4, 1, 0, 1, 1, 0, 7, 1);
        checks.refuses("5: before a walk", INDEX, () -> x.step(0));
        x.walk(1);
        checks.same("5: step 0", x.step(0), 1);
        checks.same("5: step 2", x.step(2), 2);
        checks.refuses("5: step 3", INDEX, () -> x.step(3));
        checks.refuses("5: step -1", INDEX, () -> x.step(-1));
        checks.refuses("5: step MAX", INDEX, () -> x.step(MAX));
        checks.refuses("5: step MIN", INDEX, () -> x.step(MIN));
        x.go();
        checks.same("5: of what is left", x.step(0), 0);
        checks.refuses("5: one less", INDEX, () -> x.step(2));
        x.missing(2);
        checks.refuses("5: without a missing one", INDEX, () -> x.step(1));
    }

    private void promise6() {
        PickPaths x = floor(2, 1, 0, 4, 1, 1, 1, 1, 1, 5, 1);
        checks.refuses("6: no walk", STATE, x::go);
        x.walk(1);
        checks.same("6: the first", x.go(), 0);
        checks.same("6: it is done", x.told(0, 3), 1);
        checks.same("6: here is there", x.count(7), 0);
        checks.same("6: metres", x.count(5), 5);
        checks.same("6: one less", order(x), "1 2");
        x.closed(1, true);
        checks.refuses("6: a closed aisle", STATE, x::go);
        checks.same("6: nothing has changed", x.count(7) * 100 + x.count(5) * 10 + x.count(2), 52);
        checks.same("6: still open", x.told(1, 3), 0);
        x.closed(1, false);
        checks.same("6: opened again", x.go(), 1);
        checks.same("6: more metres", x.count(5), 5 + 10);
        x.closed(0, true);
        checks.same("6: another closed aisle", x.go(), 2);
        checks.refuses("6: none left", STATE, x::go);
        checks.same("6: all metres", x.count(5), 5 + 10 + 4);
    }

    private void promise7() {
        PickPaths x = floor(1, 1, 0, 1, 1, 0, 4, 1, 0, 8, 1, 0, 6, 0, 0, 2, 1);
        checks.refuses("7: stop -1", NO_SUCH, () -> x.missing(-1));
        checks.refuses("7: stop 5", NO_SUCH, () -> x.missing(5));
        checks.refuses("7: stop MAX", NO_SUCH, () -> x.missing(MAX));
        checks.same("7: before a walk", x.missing(4), 0);
        x.walk(1);
        checks.same("7: one that is not in the walk", x.missing(3), 18);
        checks.same("7: the last", x.missing(2), 10);
        checks.same("7: state", x.told(2, 3), 2);
        checks.same("7: not in the walk any more", order(x), "0 1");
        checks.refuses("7: it is missing", STATE, () -> x.missing(2));
        x.go();
        checks.refuses("7: it is done", STATE, () -> x.missing(0));
        checks.same("7: the first, away from the depot", x.missing(1), 2);
        checks.same("7: nothing left", x.count(2), 0);
        PickPaths y = floor(1, 1, 0, 4, 1, 0, 8, 1, 0, 1, 1);
        y.walk(3);
        y.walk(4);
        checks.same("7: nothing is laid out anew", order(y), "0 1 2");
        checks.same("7: the one between", y.missing(1), 5 + 3 + 2);
        checks.same("7: the others as they were", order(y), "0 2");
        y.closed(0, true);
        checks.same("7: in a closed aisle", y.missing(0), 4);
    }

    private void promise8() {
        PickPaths x = floor(3, 1, 2, 0, 1, 2, 9, 1);
        checks.same("8: no walk", x.left(), 0);
        x.walk(1);
        checks.same("8: all", x.left(), 7 + 9 + 16);
        x.go();
        checks.same("8: from here", x.left(), 9 + 16);
        x.closed(2, true);
        checks.same("8: closed aisles are not asked", x.left(), 9 + 16);
        x.closed(2, false);
        x.stop(1, 1, 1);
        checks.same("8: a new stop is not in it", x.left(), 9 + 16);
        x.go();
        checks.same("8: home", x.left(), 16);
        x.missing(2);
        checks.same("8: a walk without a stop", x.walk(3), 16);
    }

    private void promise9() {
        PickPaths x = floor(2, 1, 0, 4, 1, 0, 9, 1, 1, 2, 1);
        checks.same("9: twice the farthest", x.bound(), 20);
        x.walk(1);
        x.go();
        checks.same("9: there and home", x.bound(), 17);
        x.closed(1, true);
        checks.same("9: of those that are walked", x.bound(), 15);
        x.closed(0, true);
        checks.same("9: none", x.bound(), 0);
        checks.same("9: none of no pieces", floor(1, 1, 0, 9, 0).bound(), 0);
    }

    private void promise10() {
        PickPaths x = floor(1, 1, 0, 1, 60, 0, 4, 40, 0, 8, 10);
        x.walk(1);
        int[] wrong = {0, -1, 1001, MIN, MAX};
        x.cart(110);
        for (int pieces : wrong) {
            checks.refuses("10: cart " + pieces, ARGUMENT, () -> {
                x.cart(pieces);
                return 0;
            });
        }
        checks.same("10: a refused one is not taken", x.full(), 18);
        x.cart(1000);
        checks.same("10: 1000", x.full(), 18);
        x.cart(1);
        checks.same("10: 1", x.full(), 32);
    }

    private void promise11() {
        PickPaths x = floor(1, 1, 0, 1, 60, 0, 4, 40, 0, 8, 10);
        checks.same("11: no walk", x.full(), 0);
        x.walk(1);
        checks.same("11: just full", x.full(), 2 + 3 + 5 + 9 + 9);
        x.cart(109);
        checks.same("11: one short", x.full(), 2 + 3 + 5 + 9 + 9);
        x.cart(110);
        checks.same("11: all of it", x.full(), 18);
        x.cart(59);
        checks.same("11: the first one is too much", x.full(), 2 + 2 + 5 + 4 + 9);
        checks.same("11: the walk stays", x.left(), 18);
        x.cart(100);
        x.go();
        checks.same("11: empty here", x.full(), 3 + 4 + 9);
        x.cart(45);
        checks.same("11: from here", x.full(), 3 + 5 + 9 + 9);
        x.missing(1);
        checks.same("11: without a missing one", x.full(), 7 + 9);
        x.go();
        checks.same("11: home", x.full(), 9);
    }

    private void promise12() {
        PickPaths x = floor(1, 1, 0, 1, 1, 0, 8, 1, 0, 4, 0);
        checks.refuses("12: no metres", ARITHMETIC, () -> x.share(0));
        checks.refuses("12: no metres, no stop", NO_SUCH, () -> x.share(3));
        x.walk(1);
        checks.refuses("12: laid out is not walked", ARITHMETIC, () -> x.share(1));
        x.go();
        checks.same("12: to another", x.share(1), 350);
        checks.same("12: to here", x.share(0), 0);
        x.go();
        checks.same("12: rests are dropped", x.share(0), 77);
        checks.same("12: without pieces", x.share(2), 44);
        x.missing(2);
        x.closed(0, true);
        checks.same("12: whatever it is", x.share(2), 44);
        checks.refuses("12: stop -1", NO_SUCH, () -> x.share(-1));
        checks.refuses("12: stop MIN", NO_SUCH, () -> x.share(MIN));
        checks.refuses("12: stop 3", NO_SUCH, () -> x.share(3));
    }

    private void promise13() {
        PickPaths x = floor(3, 2, 0, 0, 1, 0, 19, 0, 2, 9, 1, 2, 10, 1, 1, 4, 1, 1, 4, 1);
        int[][] ways = {{0, 1, 20}, {2, 3, 2}, {0, 4, 9}, {1, 3, 17}, {1, 2, 17}, {2, 4, 10}, {4, 5, 0}, {4, 4, 0}};
        x.missing(2);
        for (int round = 0; round < 2; round++) {
            for (int[] way : ways) {
                checks.same("13: " + way[0] + " to " + way[1], x.far(way[0], way[1]), way[2]);
                checks.same("13: " + way[1] + " to " + way[0], x.far(way[1], way[0]), way[2]);
            }
            x.closed(0, true);
            x.closed(2, true);
        }
        checks.same("13: by the back of block 3", floor(2, 3, 0, 29, 1, 1, 29, 1).far(0, 1), 5);
        checks.same("13: by the back of block 1", floor(8, 1, 0, 9, 1, 7, 9, 1).far(0, 1), 23);
        int[] wrong = {-1, 6, 10, MIN, MAX};
        for (int stop : wrong) {
            checks.refuses("13: from " + stop, NO_SUCH, () -> x.far(stop, 0));
            checks.refuses("13: to " + stop, NO_SUCH, () -> x.far(0, stop));
        }
    }

    private void tells(String what, PickPaths x, int stop, int... due) {
        for (int i = 0; i < due.length; i++) {
            checks.same("14: " + what + ", " + i, x.told(stop, i), due[i]);
        }
    }

    private void promise14() {
        PickPaths x = floor(3, 3, 2, 29, 100, 1, 7, 0, 0, 3, 5);
        tells("open", x, 0, 2, 29, 100, 0, 1);
        tells("no pieces", x, 1, 1, 7, 0, 0, 0);
        x.closed(2, true);
        tells("closed", x, 0, 2, 29, 100, 0, 0);
        x.closed(2, false);
        x.walk(0);
        x.go();
        tells("done", x, 2, 0, 3, 5, 1, 0);
        x.missing(0);
        tells("missing", x, 0, 2, 29, 100, 2, 0);
        checks.refuses("14: what 5", ARGUMENT, () -> x.told(0, 5));
        checks.refuses("14: what -1", ARGUMENT, () -> x.told(0, -1));
        checks.refuses("14: what MAX", ARGUMENT, () -> x.told(0, MAX));
        checks.refuses("14: stop 3", NO_SUCH, () -> x.told(3, 0));
        checks.refuses("14: stop -1", NO_SUCH, () -> x.told(-1, 0));
        checks.refuses("14: the stop is looked at first", NO_SUCH, () -> x.told(3, 5));
    }

    private void counts(String what, PickPaths x, int... due) {
        for (int i = 0; i < due.length; i++) {
            checks.same("15: " + what + ", " + i, x.count(i), due[i]);
        }
    }

    private void promise15() {
        PickPaths x = floor(5, 2, 0, 3, 1, 1, 7, 0, 0, 8, 5, 2, 0, 1);
        counts("at first", x, 4, 3, 0, 5, 2, 0, 0, -1);
        x.walk(1);
        counts("laid out", x, 4, 3, 3, 5, 2, 0, 0, -1);
        x.go();
        counts("one done", x, 4, 2, 2, 5, 2, 4, 1, 0);
        x.missing(3);
        counts("one missing", x, 4, 1, 1, 5, 2, 4, 1, 0);
        x.closed(0, true);
        counts("one closed", x, 4, 0, 1, 5, 2, 4, 1, 0);
        x.closed(0, false);
        x.go();
        counts("all done", x, 4, 0, 0, 5, 2, 9, 2, 2);
        int[] others = {8, -1, 100, MIN, MAX};
        for (int what : others) {
            checks.same("15: count " + what, x.count(what), -1);
        }
    }

    public static void main(String[] args) {
        PromisesTest test = new PromisesTest();
        test.runAll(
            test::promise1, test::promise2, test::promise3, test::promise4ByAisles, test::promise4ByWays,
            test::promise4Refusals, test::promise5, test::promise6, test::promise7, test::promise8,
            test::promise9, test::promise10, test::promise11, test::promise12, test::promise13, test::promise14,
            test::promise15);
    }
}
