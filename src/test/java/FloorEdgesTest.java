/** The boundary cases that stand under Terms: the floor, its ways, the stops, and here. A method a sentence. */
public final class FloorEdgesTest extends Cases {
    private void hasAisles(int asked, int due) {
        PickPaths x = new PickPaths(asked, 1);
        checks.same("aisles of " + asked, x.count(3), due);
        checks.same("the last one of " + asked + " is closed", x.closed(due - 1, true), 0);
        checks.refuses("none behind it is closed", NO_SUCH, () -> x.closed(due, true));
        checks.same("a stop in the last one of " + asked, x.stop(due - 1, 0, 1), 0);
        checks.refuses("none behind it has a stop", NO_SUCH, () -> x.stop(due, 0, 1));
    }

    private void hasBlocks(int asked, int due) {
        PickPaths x = new PickPaths(2, asked);
        checks.same("blocks of " + asked, x.count(4), due);
        checks.same("the last place of " + asked, x.stop(0, 10 * due - 1, 1), 0);
        checks.refuses("none behind it", ARGUMENT, () -> x.stop(0, 10 * due, 1));
        checks.same("the last place of the other aisle", x.stop(1, 10 * due - 1, 1), 1);
        checks.same("they are joined at the back", x.far(0, 1), 1 + 3 + 1);
    }

    private void fewerAislesCountAs1() {
        checks.under("1 .. 8 of them; fewer count as 1");
        hasAisles(2, 2);
        hasAisles(1, 1);
        hasAisles(0, 1);
        hasAisles(-1, 1);
        hasAisles(-8, 1);
        hasAisles(MIN, 1);
    }

    private void moreAislesCountAs8() {
        checks.under("1 .. 8 of them; more as 8");
        hasAisles(7, 7);
        hasAisles(8, 8);
        hasAisles(9, 8);
        hasAisles(16, 8);
        hasAisles(MAX, 8);
    }

    private void fewerBlocksCountAs1() {
        checks.under("BLOCKS 1 .. 3, likewise: fewer count as 1");
        hasBlocks(2, 2);
        hasBlocks(1, 1);
        hasBlocks(0, 1);
        hasBlocks(-1, 1);
        hasBlocks(-3, 1);
        hasBlocks(MIN, 1);
    }

    private void moreBlocksCountAs3() {
        checks.under("BLOCKS 1 .. 3, likewise: more as 3");
        hasBlocks(3, 3);
        hasBlocks(4, 3);
        hasBlocks(6, 3);
        hasBlocks(MAX, 3);
    }

    private void aislesAndBlocksAreAskedApart() {
        checks.under("as told at the beginning");
        PickPaths wide = new PickPaths(MAX, MIN);
        checks.same("most aisles, fewest blocks", wide.count(3) * 10 + wide.count(4), 81);
        PickPaths deep = new PickPaths(MIN, MAX);
        checks.same("fewest aisles, most blocks", deep.count(3) * 10 + deep.count(4), 13);
    }

    private void placesOfAnAisle() {
        checks.under("PLACES 0 .. 10 * blocks - 1");
        for (int blocks = 1; blocks <= 3; blocks++) {
            PickPaths x = new PickPaths(2, blocks);
            int last = 10 * blocks - 1;
            checks.same("place 0", x.stop(1, 0, 1), 0);
            checks.same("the last place", x.stop(1, last, 1), 1);
            checks.same("place 0 is told", x.told(0, 1), 0);
            checks.same("the last place is told", x.told(1, 1), last);
            int[] wrong = {-1, last + 1, 30, MIN, MAX};
            for (int place : wrong) {
                checks.refuses("place " + place + " of " + blocks + " blocks", ARGUMENT, () -> x.stop(1, place, 1));
            }
            checks.same("two stops", x.count(0), 2);
        }
    }

    private void depthsOfPlaces() {
        checks.under("DEPTH of a place p 11 * (p / 10) + 1 + p % 10");
        int[][] depths = {{0, 1}, {1, 2}, {9, 10}, {10, 12}, {11, 13}, {19, 21}, {20, 23}, {29, 32}};
        for (int[] depth : depths) {
            PickPaths x = floor(1, 3, 0, depth[0], 1);
            checks.same("there and back to place " + depth[0], x.walk(0), 2 * depth[1]);
        }
    }

    private void depthsOfCrossAisles() {
        checks.under("CROSS AISLES go at the front, between blocks and at the back; DEPTH 11 * c");
        // Of each block the first places, the last ones before its middle, those behind it, and the last places.
        int[][] ways = {{0, 5}, {4, 13}, {5, 13}, {9, 5}, {10, 5}, {14, 13}, {15, 13}, {19, 5},
            {20, 5}, {24, 13}, {25, 13}, {29, 5}};
        for (int blocks = 1; blocks <= 3; blocks++) {
            for (int[] way : ways) {
                if (way[0] < 10 * blocks) {
                    PickPaths x = floor(2, blocks, 0, way[0], 1, 1, way[0], 1);
                    checks.same(blocks + " blocks, from place " + way[0] + " to its like", x.far(0, 1), way[1]);
                }
            }
        }
    }

    private void fromAisleToAisle() {
        checks.under("From aisle to aisle it is 3 metres along a cross aisle");
        for (int aisle = 1; aisle <= 7; aisle++) {
            PickPaths x = floor(8, 1, 0, 0, 1, aisle, 0, 1, 7, 0, 1);
            checks.same("0 to " + aisle, x.far(0, 1), 1 + 3 * aisle + 1);
            checks.same(aisle + " to 0", x.far(1, 0), 1 + 3 * aisle + 1);
            checks.same(aisle + " to 7", x.far(1, 2), aisle == 7 ? 0 : 1 + 3 * (7 - aisle) + 1);
        }
    }

    private void depotAtTheFrontOfAisle0() {
        checks.under("The DEPOT is at the front of aisle 0");
        checks.same("the first place", floor(8, 3, 0, 0, 1).walk(1), 2);
        checks.same("the last place of aisle 0", floor(8, 3, 0, 29, 1).walk(1), 2 * 32);
        checks.same("the first place of the last aisle", floor(8, 3, 7, 0, 1).walk(1), 2 * (21 + 1));
        checks.same("the last place of all", floor(8, 3, 7, 29, 1).walk(1), 2 * (21 + 32));
    }

    private void crossAislesAreAlwaysOpen() {
        checks.under("An aisle may be CLOSED: then nobody walks in it; cross aisles are always open");
        PickPaths x = floor(3, 1, 2, 4, 1, 0, 0, 1, 1, 0, 1);
        checks.same("all three", x.walk(1), 1 + 5 + 9 + 11);
        x.closed(0, true);
        x.closed(1, true);
        laysOut("behind two closed aisles", x, 1, "0", 2 * (6 + 5));
        checks.same("one goes there", x.go(), 0);
        checks.same("as far as ever", x.count(5), 6 + 5);
        PickPaths y = floor(2, 1, 0, 9, 1, 1, 9, 1);
        y.closed(0, true);
        y.closed(1, true);
        checks.same("by the back", y.far(0, 1), 1 + 3 + 1);
        checks.same("nobody walks", y.walk(0), 0);
    }

    private void farInOneAisle() {
        checks.under("FAR: between two points of one aisle the difference of their depths");
        for (int aisle = 0; aisle <= 7; aisle += 7) {
            PickPaths x = floor(8, 3, aisle, 0, 1, aisle, 9, 1, aisle, 10, 1, aisle, 29, 1, aisle, 29, 1);
            checks.same("the whole aisle", x.far(0, 3), 31);
            checks.same("back again", x.far(3, 0), 31);
            checks.same("in one block", x.far(0, 1), 9);
            checks.same("over a cross aisle", x.far(1, 2), 2);
            checks.same("of one place", x.far(3, 4), 0);
            checks.same("of one stop", x.far(3, 3), 0);
        }
    }

    private void farOfTheFrontOfAisle0() {
        checks.under("or of the front of aisle 0 and a point of aisle 0");
        PickPaths near = gone(floor(2, 3, 0, 0, 1), 1, 1);
        checks.same("to place 0", near.count(5), 1);
        checks.same("from place 0", near.left(), 1);
        PickPaths far = gone(floor(2, 3, 0, 29, 1), 1, 1);
        checks.same("to place 29", far.count(5), 32);
        checks.same("from place 29", far.left(), 32);
    }

    private void farOfTwoAisles() {
        checks.under("of two aisles the least, over all cross aisles");
        PickPaths x = floor(2, 1, 0, 4, 1, 1, 4, 1, 1, 5, 1, 1, 6, 1);
        checks.same("by the front", x.far(0, 1), 5 + 3 + 5);
        checks.same("by the front or the back", x.far(0, 2), 5 + 3 + 6);
        checks.same("by the back", x.far(0, 3), 6 + 3 + 4);
        PickPaths y = floor(8, 3, 0, 0, 1, 7, 29, 1, 7, 9, 1, 0, 10, 1, 0, 9, 1, 7, 20, 1);
        checks.same("from end to end", y.far(0, 1), 31 + 21);
        checks.same("a cross aisle between", y.far(2, 3), 1 + 21 + 1);
        checks.same("the same cross aisle behind both", y.far(2, 4), 1 + 21 + 1);
        checks.same("two cross aisles between", y.far(4, 5), 13 + 21);
    }

    private void stopsAreNumbered() {
        checks.under("STOPS are numbered 0, 1, .. (at most 10)");
        PickPaths x = new PickPaths(8, 3);
        for (int i = 0; i < 10; i++) {
            checks.same("stops before number " + i, x.count(0), i);
            checks.same("the next number", x.stop(i % 8, i, i), i);
        }
        checks.refuses("an 11th one", NO_ROOM, () -> x.stop(0, 0, 1));
        checks.refuses("and again", NO_ROOM, () -> x.stop(7, 29, 100));
        checks.same("ten", x.count(0), 10);
        checks.same("the tenth one is as it was", x.told(9, 0) * 100 + x.told(9, 1) * 10 + x.told(9, 2), 199);
        x.missing(0);
        gone(x, 0, 1);
        checks.refuses("missing and done ones give no room", NO_ROOM, () -> x.stop(0, 0, 1));
    }

    private void piecesOfAStop() {
        checks.under("an aisle, a place, pieces 0 .. 100");
        PickPaths x = new PickPaths(1, 1);
        int[] wrong = {-1, 101, 1000, MIN, MAX};
        for (int pieces : wrong) {
            checks.refuses("pieces " + pieces, ARGUMENT, () -> x.stop(0, 0, pieces));
        }
        checks.same("none was taken", x.count(0), 0);
        int[] right = {0, 1, 99, 100};
        for (int i = 0; i < right.length; i++) {
            checks.same("pieces " + right[i], x.stop(0, 0, right[i]), i);
            checks.same("they are told", x.told(i, 2), right[i]);
        }
    }

    private void twoStopsAtOnePlace() {
        checks.under("Two stops may be at one place");
        PickPaths x = alike(10, 1, 1, 0, 9, 1);
        checks.same("ten at one place", x.count(0), 10);
        checks.same("ten are walked", x.count(1), 10);
        x.missing(4);
        checks.same("one of them is missing alone", x.count(1), 9);
        gone(x, 0, 1);
        checks.same("one of them is done alone", x.count(6), 1);
    }

    private void openOrNot() {
        checks.under("A stop is OPEN, or not: DONE, or MISSING");
        PickPaths x = floor(1, 1, 0, 0, 1, 0, 1, 1, 0, 2, 0);
        x.missing(1);
        gone(x, 0, 1);
        checks.same("done, missing, open", x.told(0, 3) * 100 + x.told(1, 3) * 10 + x.told(2, 3), 120);
        checks.refuses("a done one is not missing", STATE, () -> x.missing(0));
        checks.refuses("a missing one is not missing anew", STATE, () -> x.missing(1));
        x.walk(0);
        checks.refuses("neither is gone to", STATE, x::go);
        checks.same("as they were", x.told(0, 3) * 100 + x.told(1, 3) * 10 + x.told(2, 3), 120);
    }

    private void walkedOnes() {
        checks.under("It is WALKED if it is open, has pieces and its aisle is not closed");
        PickPaths x = floor(2, 1, 0, 0, 0, 0, 1, 1, 1, 2, 1, 0, 3, 1, 0, 4, 1);
        checks.same("no pieces", x.told(0, 4), 0);
        checks.same("one piece", x.told(1, 4), 1);
        checks.same("all but that without pieces", x.count(1), 4);
        x.closed(1, true);
        checks.same("closed", x.told(2, 4), 0);
        checks.same("another aisle is", x.told(1, 4), 1);
        x.closed(1, false);
        checks.same("open again", x.told(2, 4), 1);
        x.missing(3);
        checks.same("missing", x.told(3, 4), 0);
        gone(x, 0, 1);
        checks.same("done", x.told(1, 4), 0);
        checks.same("two are left", x.count(1), 2);
    }

    private void hereAtFirst() {
        checks.under("HERE: the depot at first");
        PickPaths x = floor(1, 1, 0, 4, 1, 0, 9, 1);
        checks.same("before a walk", x.count(7), -1);
        x.walk(0);
        checks.same("laid out", x.count(7), -1);
        x.missing(0);
        checks.same("missing ones are not reached", x.count(7), -1);
        x.closed(0, true);
        checks.refuses("not there", STATE, x::go);
        checks.same("closed ones are not reached", x.count(7), -1);
    }

    private void hereIsTheLastOneReached() {
        checks.under("then the stop that was reached last");
        PickPaths x = floor(1, 1, 0, 4, 1, 0, 9, 1);
        x.walk(0);
        x.go();
        checks.same("stop 0", x.count(7), 0);
        x.walk(3);
        checks.same("another walk", x.count(7), 0);
        checks.same("from there", x.left(), 5 + 10);
        x.go();
        checks.same("stop 1", x.count(7), 1);
        checks.refuses("none left", STATE, x::go);
        checks.same("still there", x.count(7), 1);
        PickPaths full = gone(alike(10, 1, 1, 0, 2, 1), 0, 10);
        checks.same("the last number", full.count(7), 9);
    }

    public static void main(String[] args) {
        FloorEdgesTest test = new FloorEdgesTest();
        test.runAll(
            test::fewerAislesCountAs1, test::moreAislesCountAs8, test::fewerBlocksCountAs1,
            test::moreBlocksCountAs3, test::aislesAndBlocksAreAskedApart, test::placesOfAnAisle,
            test::depthsOfPlaces, test::depthsOfCrossAisles, test::fromAisleToAisle,
            test::depotAtTheFrontOfAisle0, test::crossAislesAreAlwaysOpen, test::farInOneAisle,
            test::farOfTheFrontOfAisle0, test::farOfTwoAisles, test::stopsAreNumbered, test::piecesOfAStop,
            test::twoStopsAtOnePlace, test::openOrNot, test::walkedOnes, test::hereAtFirst,
            test::hereIsTheLastOneReached);
    }
}
