/** The boundary cases of a walk's length and of each kind's words. A method a sentence. */
public final class WalkEdgesTest extends Cases {
    private static final int THROUGH = 0;
    private static final int THERE_AND_BACK = 1;
    private static final int LARGEST_GAP = 2;
    private static final int NEAREST = 3;
    private static final int LEAST = 4;

    /** Between a first aisle and a last one, with a stop at place 0 each, stops 1, 2, .. of the aisle that is parted. */
    private static PickPaths parted(int blocks, int... places) {
        PickPaths x = floor(3, blocks, 0, 0, 1);
        for (int place : places) {
            x.stop(1, place, 1);
        }
        x.stop(2, 0, 1);
        return x;
    }

    private void parts(String what, String order, int blocks, int... places) {
        PickPaths x = parted(blocks, places);
        x.walk(LARGEST_GAP);
        checks.same(what, order(x), order);
    }

    private void orderOfAllThatAreWalked() {
        checks.under("A WALK is an order of all stops that are walked");
        for (int kind = THROUGH; kind <= LEAST; kind++) {
            PickPaths x = floor(3, 1, 0, 0, 1, 0, 1, 0, 0, 2, 1, 1, 3, 1, 2, 4, 1);
            x.closed(1, true);
            x.missing(2);
            laysOut("without pieces, missing, closed: kind " + kind, x, kind, "0 4", 1 + 12 + 11);
            x.go();
            laysOut("done: kind " + kind, x, kind, "4", 12 + 11);
            x.closed(1, false);
            x.walk(kind);
            checks.same("open again: kind " + kind, x.count(2), 2);
        }
        for (int kind = THROUGH; kind <= NEAREST; kind++) {
            laysOut("ten: kind " + kind, alike(10, 1, 1, 0, 9, 1), kind, "0 1 2 3 4 5 6 7 8 9", 20);
        }
    }

    private void lengthOfOneStop() {
        checks.under("its LENGTH is from here to the first one, .. from the last one to the depot");
        for (int kind = THROUGH; kind <= LEAST; kind++) {
            laysOut("one stop, kind " + kind, floor(8, 3, 7, 29, 1), kind, "0", 2 * (21 + 32));
            laysOut("the nearest place, kind " + kind, floor(8, 3, 0, 0, 1), kind, "0", 2);
        }
    }

    private void lengthOfNoneAtTheDepot() {
        checks.under("0 if none is walked and here is the depot");
        for (int kind = THROUGH; kind <= LEAST; kind++) {
            laysOut("no stop, kind " + kind, new PickPaths(8, 3), kind, "", 0);
            laysOut("none with pieces, kind " + kind, floor(8, 3, 7, 29, 0), kind, "", 0);
            PickPaths closed = floor(8, 3, 7, 29, 1);
            closed.closed(7, true);
            laysOut("closed, kind " + kind, closed, kind, "", 0);
            PickPaths missing = floor(8, 3, 7, 29, 1);
            missing.missing(0);
            laysOut("missing, kind " + kind, missing, kind, "", 0);
        }
    }

    private void lengthOfNoneElsewhere() {
        checks.under("without a stop from here to the depot");
        for (int kind = THROUGH; kind <= LEAST; kind++) {
            PickPaths x = gone(floor(2, 2, 1, 19, 1, 0, 0, 0), kind, 1);
            laysOut("kind " + kind, x, kind, "", 21 + 3);
            checks.same("with a cart", x.full(), 21 + 3);
            x.closed(1, true);
            laysOut("out of a closed aisle, kind " + kind, x, kind, "", 21 + 3);
        }
    }

    private void anotherWalkTakesTheFirstOnesPlace() {
        checks.under("A walk is laid out");
        PickPaths x = floor(1, 1, 0, 4, 1, 0, 1, 1);
        x.walk(LEAST);
        checks.same("least", order(x), "0 1");
        x.walk(NEAREST);
        checks.same("nearest in its place", order(x), "1 0");
        x.closed(0, true);
        checks.same("none", x.walk(THROUGH), 0);
        checks.same("in place of two", x.count(2), 0);
    }

    private void throughOneAisle() {
        checks.under("THROUGH: in the first one that has such stops upward by places");
        laysOut("aisle 0 alone", floor(1, 1, 0, 9, 1, 0, 0, 1, 0, 5, 1), THROUGH, "1 2 0", 20);
        laysOut("aisle 7 alone", floor(8, 1, 7, 9, 1, 7, 0, 1, 7, 5, 1), THROUGH, "1 2 0", 22 + 5 + 4 + 31);
        laysOut("aisle 1 before 2", floor(3, 1, 2, 0, 1, 1, 9, 1, 1, 0, 1), THROUGH, "2 1 0", 4 + 9 + 14 + 7);
    }

    private void throughTheNextOnes() {
        checks.under("THROUGH: in the next one downward, and so on");
        int[] stops = {0, 1, 1, 0, 8, 1, 1, 1, 1, 1, 8, 1, 2, 1, 1, 2, 8, 1, 3, 1, 1, 3, 8, 1, 4, 1, 1, 4, 8, 1};
        laysOut("five aisles", floor(5, 1, stops), THROUGH, "0 1 3 2 4 5 7 6 8 9", 2 + 5 * 7 + 4 * 7 + 9 + 12);
        int[] gap = {0, 0, 1, 2, 1, 1, 2, 8, 1, 7, 8, 1, 7, 1, 1};
        laysOut("aisles without stops are none", floor(8, 1, gap), THROUGH, "0 2 1 4 3", 1 + 16 + 7 + 19 + 7 + 30);
    }

    private void throughCountsWalkedOnesAlone() {
        checks.under("THROUGH: an aisle counts if it has stops that are walked");
        PickPaths x = floor(3, 1, 0, 0, 1, 1, 5, 0, 2, 1, 1, 2, 8, 1, 1, 5, 1);
        laysOut("the one between counts", x, THROUGH, "0 4 2 3", 1 + 10 + 11 + 7 + 15);
        x.missing(4);
        laysOut("not if one is missing and one has no pieces", x, THROUGH, "0 3 2", 1 + 16 + 7 + 8);
        x.stop(1, 5, 1);
        x.closed(1, true);
        laysOut("not if it is closed", x, THROUGH, "0 3 2", 1 + 16 + 7 + 8);
        x.closed(1, false);
        x.go();
        laysOut("the first one's stop is done", x, THROUGH, "5 3 2", 10 + 10 + 7 + 8);
    }

    private void aislesFirstToLast() {
        checks.under("THROUGH, THERE AND BACK: aisles upward (whatever the numbers of their stops)");
        PickPaths backs = new PickPaths(8, 3);
        PickPaths fronts = new PickPaths(8, 3);
        for (int aisle = 7; aisle >= 0; aisle--) {
            backs.stop(aisle, 29, 1);
            fronts.stop(aisle, 0, 1);
        }
        for (int kind = THROUGH; kind <= LARGEST_GAP; kind++) {
            laysOut("last places, kind " + kind, backs, kind, "7 6 5 4 3 2 1 0", 32 + 7 * 5 + 53);
        }
        laysOut("first places", fronts, THROUGH, "7 6 5 4 3 2 1 0", 1 + 7 * 5 + 22);
        laysOut("first places", fronts, THERE_AND_BACK, "7 6 5 4 3 2 1 0", 1 + 7 * 5 + 22);
        laysOut("first places", fronts, LARGEST_GAP, "7 0 1 2 3 4 5 6", 1 + 23 + 6 * 5 + 4);
    }

    private void placesFirstAndLast() {
        checks.under("upward by places, downward (the first place and the last one of neighbouring aisles)");
        PickPaths x = new PickPaths(5, 3);
        for (int aisle = 4; aisle >= 0; aisle--) {
            x.stop(aisle, 29, 1);
            x.stop(aisle, 0, 1);
        }
        laysOut("through", x, THROUGH, "9 8 6 7 5 4 2 3 1 0", 1 + 5 * 31 + 4 * 5 + 44);
        laysOut("there and back", x, THERE_AND_BACK, "9 8 7 6 5 4 3 2 1 0", 1 + 5 * 31 + 4 * 34 + 44);
        laysOut("largest gap", x, LARGEST_GAP, "9 8 6 4 2 0 1 3 5 7", 1 + 31 + 4 * 5 + 31 + 3 * 5 + 4);
    }

    private void equalPlacesUpward() {
        checks.under("Stops of one place and aisle by number");
        int[] stops = {1, 5, 1, 0, 5, 1, 1, 5, 1, 0, 5, 1, 1, 5, 1, 0, 5, 1};
        laysOut("there and back", floor(2, 1, stops), THERE_AND_BACK, "1 3 5 0 2 4", 6 + 13 + 9);
        laysOut("nearest", floor(2, 1, stops), NEAREST, "1 3 5 0 2 4", 6 + 13 + 9);
        laysOut("least", floor(2, 1, stops), LEAST, "0 2 4 1 3 5", 9 + 13 + 6);
        laysOut("next to others", floor(1, 1, 0, 5, 1, 0, 4, 1, 0, 5, 1, 0, 4, 1), THROUGH, "1 3 0 2", 12);
        int[] places = {0, 9, 10, 19, 20, 29};
        for (int place : places) {
            laysOut("place " + place, floor(1, 3, 0, place, 1, 0, place, 1), THROUGH, "0 1",
                2 * (place + 1 + place / 10));
        }
    }

    private void equalPlacesDownward() {
        checks.under("Where an order is downward, stops of one place come by number as well");
        int[] stops = {1, 5, 1, 0, 5, 1, 1, 5, 1, 0, 5, 1, 1, 5, 1, 0, 5, 1};
        laysOut("through", floor(2, 1, stops), THROUGH, "1 3 5 0 2 4", 6 + 13 + 9);
        laysOut("the last aisle of the largest gap", floor(2, 1, stops), LARGEST_GAP, "1 3 5 0 2 4", 6 + 13 + 9);
        int[] all = {2, 5, 1, 1, 9, 1, 1, 0, 1, 2, 5, 1, 1, 9, 1, 1, 0, 1, 0, 3, 1, 0, 3, 1};
        laysOut("back ones, last ones, front ones", floor(3, 1, all), LARGEST_GAP, "6 7 1 4 0 3 2 5", 4 + 11 + 9 + 10 + 4);
        laysOut("among others, through", floor(2, 1, 0, 0, 1, 1, 4, 1, 1, 5, 1, 1, 4, 1, 1, 5, 1), THROUGH,
            "0 2 4 1 3", 1 + 10 + 1 + 8);
    }

    private void thereAndBackUpward() {
        checks.under("THERE AND BACK: aisles upward, in each upward by places");
        laysOut("the second one", floor(2, 1, 0, 0, 1, 1, 8, 1, 1, 1, 1), THERE_AND_BACK, "0 2 1", 1 + 6 + 7 + 12);
        laysOut("first and last aisle", floor(8, 1, 7, 0, 1, 0, 9, 1, 0, 0, 1), THERE_AND_BACK, "2 1 0", 1 + 9 + 32 + 22);
        laysOut("first and last place", floor(1, 3, 0, 29, 1, 0, 0, 1), THERE_AND_BACK, "1 0", 64);
    }

    private void gapOfOneAisleAlone() {
        checks.under("LARGEST GAP: First the first aisle upward .. then the last aisle (if it is another one)");
        laysOut("one aisle", floor(1, 1, 0, 9, 1, 0, 2, 1, 0, 8, 1), LARGEST_GAP, "1 2 0", 20);
        laysOut("aisle 7 alone", floor(8, 1, 7, 9, 1, 7, 2, 1, 7, 8, 1), LARGEST_GAP, "1 2 0", 24 + 6 + 1 + 31);
    }

    private void gapOfTwoAisles() {
        checks.under("LARGEST GAP: in each aisle that has such stops but the first and the last one of these");
        int[] stops = {0, 2, 1, 0, 9, 1, 1, 0, 1, 1, 9, 1};
        laysOut("two aisles are not parted", floor(2, 1, stops), LARGEST_GAP, "0 1 3 2", 3 + 7 + 5 + 9 + 4);
        int[] within = {2, 0, 1, 3, 0, 1, 3, 9, 1, 4, 0, 1};
        laysOut("three of eight", floor(8, 1, within), LARGEST_GAP, "0 2 3 1", 7 + 14 + 14 + 5 + 10);
    }

    private void firstAndLastAisleAreNotParted() {
        checks.under("LARGEST GAP: First the first aisle upward; .. then the last aisle downward");
        laysOut("two at the front of the last aisle", floor(2, 1, 0, 0, 1, 1, 0, 1, 1, 2, 1), LARGEST_GAP, "0 2 1",
            1 + 7 + 2 + 4);
        laysOut("the same before an aisle without stops", floor(3, 1, 0, 0, 1, 1, 0, 1, 1, 2, 1), LARGEST_GAP, "0 2 1",
            1 + 7 + 2 + 4);
        laysOut("two at the back of the last aisle", floor(2, 1, 0, 0, 1, 1, 7, 1, 1, 9, 1), LARGEST_GAP, "0 2 1",
            1 + 14 + 2 + 11);
        laysOut("two at the front of the first aisle", floor(2, 1, 0, 2, 1, 0, 0, 1, 1, 0, 1), LARGEST_GAP, "1 0 2",
            1 + 2 + 7 + 4);
        laysOut("two at the back of the first aisle", floor(2, 1, 0, 9, 1, 0, 7, 1, 1, 0, 1), LARGEST_GAP, "1 0 2",
            8 + 2 + 14 + 4);
    }

    private void gapCountsWalkedOnesAlone() {
        checks.under("LARGEST GAP: such stops are those that are walked");
        PickPaths x = floor(4, 1, 0, 0, 0, 1, 2, 1, 1, 9, 1, 2, 0, 1, 2, 9, 1, 3, 5, 1);
        laysOut("aisle 1 is the first one", x, LARGEST_GAP, "1 2 4 5 3", 6 + 7 + 5 + 9 + 10 + 7);
        x.closed(3, true);
        laysOut("aisle 2 is the last one", x, LARGEST_GAP, "1 2 4 3", 6 + 7 + 5 + 9 + 7);
        x.closed(3, false);
        x.closed(2, true);
        laysOut("nothing is between", x, LARGEST_GAP, "1 2 5", 6 + 7 + 12 + 15);
    }

    private void gapNeighboursAreWalkedOnes() {
        checks.under("LARGEST GAP: between neighbours (.. its stops ..): of those that are walked");
        // With a neighbour at place 6 the gap behind the front would be the greatest, and stop 1 a back one.
        PickPaths x = parted(1, 3, 9);
        laysOut("two", x, LARGEST_GAP, "0 2 3 1", 1 + 14 + 14 + 8 + 7);
        x.stop(1, 6, 0);
        laysOut("one without pieces is no neighbour", x, LARGEST_GAP, "0 2 3 1", 1 + 14 + 14 + 8 + 7);
        x.stop(1, 6, 1);
        laysOut("one with pieces is", x, LARGEST_GAP, "0 2 5 1 3", 1 + 14 + 3 + 3 + 8 + 7);
        x.missing(5);
        laysOut("a missing one is not", x, LARGEST_GAP, "0 2 3 1", 1 + 14 + 14 + 8 + 7);
        PickPaths y = gone(floor(3, 1, 1, 6, 1), LARGEST_GAP, 1);
        y.stop(0, 0, 1);
        y.stop(1, 3, 1);
        y.stop(1, 9, 1);
        y.stop(2, 0, 1);
        laysOut("nor a done one", y, LARGEST_GAP, "1 3 4 2", 11 + 14 + 14 + 8 + 7);
    }

    private void gapOfASingleStop() {
        checks.under("LARGEST GAP: between neighbours (the front, its stops by places, the back)");
        parts("1 block, nearer to the front", "0 2 1", 1, 4);
        parts("1 block, nearer to the back", "0 1 2", 1, 5);
        parts("2 blocks, nearer to the front", "0 2 1", 2, 9);
        parts("2 blocks, nearer to the back", "0 1 2", 2, 10);
        parts("3 blocks, nearer to the front", "0 2 1", 3, 14);
        parts("3 blocks, nearer to the back", "0 1 2", 3, 15);
        parts("the first place", "0 2 1", 1, 0);
        parts("the last place", "0 1 2", 3, 29);
    }

    private void gapOfDepths() {
        checks.under("LARGEST GAP: the greatest gap of depths");
        parts("a metre more for the cross aisle between", "0 2 3 1", 2, 5, 12);
        parts("the same behind the second cross aisle", "0 3 4 1 2", 3, 6, 13, 21);
        parts("a metre more before the back", "0 3 1 2", 1, 1, 5);
        parts("a metre more behind the front than between", "0 2 1 3", 1, 4, 8);
        parts("a metre more behind the front than before the back", "0 2 1 3", 1, 4, 6);
        parts("a metre more in the middle", "0 3 4 1 2", 1, 1, 3, 7);
    }

    private void equalGaps() {
        checks.under("LARGEST GAP: of equal ones the one nearest to the front");
        parts("at the front and in the middle", "0 2 1 3", 1, 3, 7);
        parts("at the front and at the back", "0 2 1 3", 1, 3, 6);
        parts("in the middle and at the back", "0 2 3 1", 1, 2, 6);
        parts("twice in the middle", "0 3 2 4 1", 1, 1, 4, 7);
        parts("equal ones behind a lesser one", "0 3 4 1 2", 1, 0, 2, 6);
    }

    private void gapOfOnePlace() {
        checks.under("LARGEST GAP: parts its stops into FRONT ones and BACK ones");
        parts("front ones of one place", "0 4 1 2 3", 1, 4, 4, 4);
        parts("back ones of one place", "0 1 2 3 4", 1, 5, 5, 5);
        parts("all at the front", "0 4 1 2 3", 1, 0, 1, 2);
        parts("all at the back", "0 3 2 1 4", 1, 7, 8, 9);
    }

    private void gapOrder() {
        checks.under("LARGEST GAP: then the back ones, aisles upward, in each downward; .. front ones, aisles downward, in each upward");
        int[] stops = {0, 0, 1, 1, 1, 1, 1, 2, 1, 1, 8, 1, 1, 9, 1, 2, 1, 1, 2, 2, 1, 2, 8, 1, 2, 9, 1, 3, 5, 1};
        laysOut("four aisles", floor(4, 1, stops), LARGEST_GAP, "0 4 3 8 7 9 5 6 1 2", 60);
        int[] last = {5, 0, 1, 6, 0, 1, 6, 9, 1, 7, 0, 1, 7, 9, 1, 0, 3, 1};
        laysOut("up to aisle 7", floor(8, 1, last), LARGEST_GAP, "5 2 4 3 1 0", 4 + 26 + 5 + 9 + 5 + 5 + 16);
    }

    private void nearestFromWhereOneIs() {
        checks.under("NEAREST: of the stops that are left the one that is nearest from where one is");
        laysOut("not from the depot", floor(3, 1, 0, 2, 1, 2, 0, 1, 0, 8, 1), NEAREST, "0 2 1", 3 + 6 + 16 + 7);
        laysOut("nor to the depot", floor(1, 1, 0, 9, 1, 0, 5, 1, 0, 1, 1), NEAREST, "2 1 0", 20);
        PickPaths x = gone(floor(1, 1, 0, 9, 1), NEAREST, 1);
        x.stop(0, 1, 1);
        x.stop(0, 5, 1);
        laysOut("from the back", x, NEAREST, "2 1", 4 + 4 + 2);
    }

    private void nearestOfEqualOnes() {
        checks.under("NEAREST: of equal ones the lowest number");
        laysOut("aisle 0 is number 0", floor(2, 1, 0, 3, 1, 1, 0, 1), NEAREST, "0 1", 4 + 8 + 4);
        laysOut("aisle 1 is number 0", floor(2, 1, 1, 0, 1, 0, 3, 1), NEAREST, "0 1", 4 + 8 + 4);
        laysOut("a metre nearer", floor(2, 1, 0, 4, 1, 1, 0, 1), NEAREST, "1 0", 4 + 9 + 5);
        PickPaths x = gone(floor(1, 1, 0, 4, 1), NEAREST, 1);
        x.stop(0, 6, 1);
        x.stop(0, 2, 1);
        laysOut("from here, behind first", x, NEAREST, "1 2", 2 + 4 + 3);
        x.missing(1);
        x.stop(0, 6, 1);
        laysOut("from here, before first", x, NEAREST, "2 3", 2 + 4 + 7);
        x.stop(0, 4, 1);
        laysOut("at here itself", x, NEAREST, "4 2 3", 2 + 4 + 7);
        laysOut("equal ones later on", floor(1, 1, 0, 6, 1, 0, 4, 1, 0, 8, 1, 0, 0, 1), NEAREST, "3 1 0 2", 18);
    }

    private void leastOfEqualOnes() {
        checks.under("LEAST: of such ones the first one by numbers of stops, compared from the first on");
        laysOut("one stop", floor(1, 1, 0, 9, 1), LEAST, "0", 20);
        laysOut("to and fro", floor(1, 1, 0, 8, 1, 0, 2, 1), LEAST, "0 1", 18);
        laysOut("fro and to", floor(1, 1, 0, 2, 1, 0, 8, 1), LEAST, "0 1", 18);
        laysOut("the second one tells", floor(1, 1, 0, 2, 1, 0, 8, 1, 0, 5, 1), LEAST, "0 1 2", 18);
        laysOut("the last one first", floor(1, 1, 0, 8, 1, 0, 2, 1, 0, 5, 1), LEAST, "0 2 1", 18);
        laysOut("a metre less", floor(2, 1, 1, 9, 1, 0, 3, 1, 0, 9, 1), LEAST, "0 2 1", 13 + 5 + 6 + 4);
        laysOut("all at one place", alike(8, 8, 3, 7, 29, 1), LEAST, "0 1 2 3 4 5 6 7", 106);
    }

    private void leastFromHere() {
        checks.under("LEAST: the order with the least length (from here)");
        PickPaths x = gone(floor(1, 1, 0, 4, 1, 0, 1, 1, 0, 7, 1), THERE_AND_BACK, 1);
        laysOut("from place 1", x, LEAST, "0 2", 3 + 3 + 8);
        x.go();
        laysOut("from place 4", x, LEAST, "2", 3 + 8);
    }

    private void leastOfNoMoreThan8() {
        checks.under("LEAST: No more than 8 stops");
        laysOut("8", alike(8, 1, 1, 0, 0, 1), LEAST, "0 1 2 3 4 5 6 7", 2);
        PickPaths nine = alike(9, 1, 1, 0, 0, 1);
        checks.refuses("9", STATE, () -> nine.walk(LEAST));
        checks.refuses("10", STATE, () -> alike(10, 1, 1, 0, 0, 1).walk(LEAST));
        nine.missing(0);
        laysOut("8 of 9", nine, LEAST, "1 2 3 4 5 6 7 8", 2);
        nine.stop(0, 0, 0);
        laysOut("8 of 10, one without pieces", nine, LEAST, "1 2 3 4 5 6 7 8", 2);
        PickPaths ten = gone(alike(10, 1, 1, 0, 0, 1), THROUGH, 1);
        checks.refuses("9 behind a done one", STATE, () -> ten.walk(LEAST));
        ten.go();
        laysOut("8 behind two done ones", ten, LEAST, "2 3 4 5 6 7 8 9", 1);
    }

    private void leastCountsWalkedOnesAlone() {
        checks.under("kind 4 with more than 8 stops that are walked");
        PickPaths x = alike(8, 2, 1, 0, 0, 1);
        x.stop(1, 0, 1);
        x.stop(1, 0, 1);
        checks.refuses("10", STATE, () -> x.walk(LEAST));
        x.closed(1, true);
        laysOut("two in a closed aisle", x, LEAST, "0 1 2 3 4 5 6 7", 2);
        x.closed(1, false);
        checks.refuses("10 again", STATE, () -> x.walk(LEAST));
        x.closed(0, true);
        laysOut("eight in a closed aisle", x, LEAST, "8 9", 8);
    }

    private void theOtherKindsOfMoreThan8() {
        checks.under("(No more than 8 stops.) stands by LEAST alone");
        for (int kind = THROUGH; kind <= NEAREST; kind++) {
            for (int many = 8; many <= 10; many++) {
                PickPaths x = alike(many, 1, 3, 0, 29, 1);
                checks.same(many + " by kind " + kind, x.walk(kind), 64);
                checks.same("all of them", x.count(2), many);
                checks.same("the last one", x.step(many - 1), many - 1);
            }
        }
    }

    public static void main(String[] args) {
        WalkEdgesTest test = new WalkEdgesTest();
        test.runAll(
            test::orderOfAllThatAreWalked, test::lengthOfOneStop, test::lengthOfNoneAtTheDepot,
            test::lengthOfNoneElsewhere, test::anotherWalkTakesTheFirstOnesPlace, test::throughOneAisle,
            test::throughTheNextOnes, test::throughCountsWalkedOnesAlone, test::aislesFirstToLast,
            test::placesFirstAndLast, test::equalPlacesUpward, test::equalPlacesDownward,
            test::thereAndBackUpward, test::gapOfOneAisleAlone, test::gapOfTwoAisles,
            test::firstAndLastAisleAreNotParted, test::gapCountsWalkedOnesAlone, test::gapNeighboursAreWalkedOnes,
            test::gapOfASingleStop,
            test::gapOfDepths, test::equalGaps, test::gapOfOnePlace, test::gapOrder,
            test::nearestFromWhereOneIs, test::nearestOfEqualOnes, test::leastOfEqualOnes, test::leastFromHere,
            test::leastOfNoMoreThan8, test::leastCountsWalkedOnesAlone, test::theOtherKindsOfMoreThan8);
    }
}
