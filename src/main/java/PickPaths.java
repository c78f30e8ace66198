import java.util.NoSuchElementException;

/** Walks of a picker through the aisles and cross aisles of a floor. */
public final class PickPaths {
    private static final int MOST_AISLES = 8;
    private static final int MOST_BLOCKS = 3;
    private static final int BLOCK_PLACES = 10;
    private static final int MOST_PLACES = MOST_BLOCKS * BLOCK_PLACES;
    private static final int BLOCK_DEPTH = 11;
    private static final int AISLE_WIDTH = 3;
    /** More metres than any walk has. */
    private static final int ENDLESS = 1000000;

    private static final int MOST_STOPS = 10;
    private static final int MOST_PIECES = 100;
    private static final int MOST_CART = 1000;
    private static final int FIRST_CART = 100;

    /** The depot is a point like the stops, numbered behind the last one that there can be. */
    private static final int DEPOT = MOST_STOPS;
    private static final int POINTS = MOST_STOPS + 1;

    private static final int OPEN = 0;
    private static final int DONE = 1;
    private static final int MISSING = 2;

    private static final int THROUGH = 0;
    private static final int THERE_AND_BACK = 1;
    private static final int LARGEST_GAP = 2;
    private static final int NEAREST = 3;
    private static final int LEAST = 4;
    private static final int MOST_FOR_LEAST = 8;

    private final Floor floor;
    private final Stops stops;
    private final Planner planner;
    private final Route route = new Route();
    private int here = DEPOT;
    private int metres = 0;
    private int cartRoom = FIRST_CART;

    public PickPaths(int aisles, int blocks) {
        floor = new Floor(aisles, blocks);
        stops = new Stops(floor);
        planner = new Planner(floor, stops);
    }

    public int stop(int aisle, int place, int pieces)
            throws NoSuchElementException, IllegalArgumentException, UnsupportedOperationException {
        requireAisle(aisle);
        if (!floor.hasPlace(place)) {
            throw new IllegalArgumentException("no such place");
        }
        if (pieces < 0 || pieces > MOST_PIECES) {
            throw new IllegalArgumentException("pieces are 0 to 100");
        }
        if (stops.size >= MOST_STOPS) {
            throw new UnsupportedOperationException("no room for another stop");
        }
        return stops.add(aisle, place, pieces);
    }

    public int closed(int aisle, boolean on) throws NoSuchElementException {
        requireAisle(aisle);
        floor.shut[aisle] = on;
        return stops.openIn(aisle);
    }

    public int walk(int kind) throws IllegalArgumentException, IllegalStateException {
        if (kind < THROUGH || kind > LEAST) {
            throw new IllegalArgumentException("no such kind of walk");
        }
        if (kind == LEAST && stops.walkedOnes() > MOST_FOR_LEAST) {
            throw new IllegalStateException("too many stops for the least walk");
        }
        planner.lay(kind, here, route);
        return routeLength();
    }

    public int step(int i) throws ArrayIndexOutOfBoundsException {
        if (i < 0 || i >= route.size) {
            throw new ArrayIndexOutOfBoundsException("no such step is left");
        }
        return route.row[i];
    }

    public int go() throws IllegalStateException {
        if (route.size == 0) {
            throw new IllegalStateException("the walk has no stop left");
        }
        int next = route.row[0];
        if (floor.shut[stops.aisle[next]]) {
            throw new IllegalStateException("the aisle of the next stop is closed");
        }
        metres += stops.way(here, next);
        stops.state[next] = DONE;
        here = next;
        route.drop(next);
        return next;
    }

    public int missing(int stop) throws NoSuchElementException, IllegalStateException {
        requireStop(stop);
        if (stops.state[stop] != OPEN) {
            throw new IllegalStateException("the stop is not open");
        }
        stops.state[stop] = MISSING;
        route.drop(stop);
        return routeLength();
    }

    public int left() {
        return routeLength();
    }

    public int bound() {
        int most = 0;
        for (int stop = 0; stop < stops.size; stop++) {
            if (stops.isWalked(stop)) {
                most = Math.max(most, stops.way(here, stop) + stops.way(stop, DEPOT));
            }
        }
        return most;
    }

    public void cart(int pieces) throws IllegalArgumentException {
        if (pieces < 1 || pieces > MOST_CART) {
            throw new IllegalArgumentException("a cart has room for 1 to 1000 pieces");
        }
        cartRoom = pieces;
    }

    public int full() {
        int length = 0;
        int load = 0;
        int at = here;
        for (int i = 0; i < route.size; i++) {
            int next = route.row[i];
            int pieces = stops.pieces[next];
            // Stops of a walk have pieces, so an empty load is one without a stop yet.
            if (load > 0 && load + pieces > cartRoom) {
                length += stops.way(at, DEPOT);
                at = DEPOT;
                load = 0;
            }
            length += stops.way(at, next);
            at = next;
            load += pieces;
        }
        return length + stops.way(at, DEPOT);
    }

    public int share(int stop) throws NoSuchElementException, ArithmeticException {
        requireStop(stop);
        if (metres == 0) {
            throw new ArithmeticException("no metres were walked");
        }
        return 100 * stops.way(here, stop) / metres;
    }

    public int far(int stop, int other) throws NoSuchElementException {
        requireStop(stop);
        requireStop(other);
        return stops.way(stop, other);
    }

    public int told(int stop, int what) throws NoSuchElementException, IllegalArgumentException {
        requireStop(stop);
        switch (what) {
            case 0:
                return stops.aisle[stop];
            case 1:
                return stops.place[stop];
            case 2:
                return stops.pieces[stop];
            case 3:
                return stops.state[stop];
            case 4:
                return stops.isWalked(stop) ? 1 : 0;
            default:
                throw new IllegalArgumentException("nothing is told under this number");
        }
    }

    public int count(int what) {
        switch (what) {
            case 0:
                return stops.size;
            case 1:
                return stops.walkedOnes();
            case 2:
                return route.size;
            case 3:
                return floor.aisles;
            case 4:
                return floor.blocks;
            case 5:
                return metres;
            case 6:
                return stops.doneOnes();
            case 7:
                return here == DEPOT ? -1 : here;
            default:
                return -1;
        }
    }

    private void requireAisle(int aisle) {
        if (!floor.hasAisle(aisle)) {
            throw new NoSuchElementException("no such aisle");
        }
    }

    private void requireStop(int stop) {
        if (stop < 0 || stop >= stops.size) {
            throw new NoSuchElementException("no such stop");
        }
    }

    private int routeLength() {
        int length = 0;
        int at = here;
        for (int i = 0; i < route.size; i++) {
            length += stops.way(at, route.row[i]);
            at = route.row[i];
        }
        return length + stops.way(at, DEPOT);
    }

    /** Aisles, places and depths. */
    private static final class Floor {
        final int aisles;
        final int blocks;
        final boolean[] shut = new boolean[MOST_AISLES];

        Floor(int aisles, int blocks) {
            this.aisles = Math.max(1, Math.min(MOST_AISLES, aisles));
            this.blocks = Math.max(1, Math.min(MOST_BLOCKS, blocks));
        }

        boolean hasAisle(int aisle) {
            return aisle >= 0 && aisle < aisles;
        }

        boolean hasPlace(int place) {
            return place >= 0 && place < BLOCK_PLACES * blocks;
        }

        int backDepth() {
            return BLOCK_DEPTH * blocks;
        }

        int placeDepth(int place) {
            return BLOCK_DEPTH * (place / BLOCK_PLACES) + 1 + place % BLOCK_PLACES;
        }

        int between(int aisle, int depth, int otherAisle, int otherDepth) {
            if (aisle == otherAisle) {
                return Math.abs(depth - otherDepth);
            }
            int least = ENDLESS;
            for (int cross = 0; cross <= blocks; cross++) {
                int crossDepth = BLOCK_DEPTH * cross;
                least = Math.min(least, Math.abs(depth - crossDepth) + Math.abs(otherDepth - crossDepth));
            }
            return least + AISLE_WIDTH * Math.abs(aisle - otherAisle);
        }
    }

    /** All stops by number; the rows' last point is the depot, at aisle 0 and depth 0. */
    private static final class Stops {
        final int[] aisle = new int[POINTS];
        final int[] place = new int[POINTS];
        final int[] depth = new int[POINTS];
        final int[] pieces = new int[POINTS];
        final int[] state = new int[POINTS];
        int size = 0;
        private final Floor floor;
        // Stops never move, so each way is measured once, when its later stop comes.
        private final int[] ways = new int[POINTS * POINTS];

        Stops(Floor floor) {
            this.floor = floor;
        }

        int add(int newAisle, int newPlace, int newPieces) {
            int stop = size;
            aisle[stop] = newAisle;
            place[stop] = newPlace;
            depth[stop] = floor.placeDepth(newPlace);
            pieces[stop] = newPieces;
            state[stop] = OPEN;
            for (int other = 0; other < stop; other++) {
                measure(stop, other);
            }
            measure(stop, DEPOT);
            size++;
            return stop;
        }

        private void measure(int stop, int other) {
            int way = floor.between(aisle[stop], depth[stop], aisle[other], depth[other]);
            ways[stop * POINTS + other] = way;
            ways[other * POINTS + stop] = way;
        }

        int way(int from, int to) {
            return ways[from * POINTS + to];
        }

        boolean isWalked(int stop) {
            return state[stop] == OPEN && pieces[stop] > 0 && !floor.shut[aisle[stop]];
        }

        int walkedOnes() {
            int found = 0;
            for (int stop = 0; stop < size; stop++) {
                if (isWalked(stop)) {
                    found++;
                }
            }
            return found;
        }

        int doneOnes() {
            int found = 0;
            for (int stop = 0; stop < size; stop++) {
                if (state[stop] == DONE) {
                    found++;
                }
            }
            return found;
        }

        int openIn(int wantedAisle) {
            int found = 0;
            for (int stop = 0; stop < size; stop++) {
                if (aisle[stop] == wantedAisle && state[stop] == OPEN) {
                    found++;
                }
            }
            return found;
        }
    }

    /** What is left of the walk that is laid out. */
    private static final class Route {
        final int[] row = new int[MOST_STOPS];
        int size = 0;

        void clear() {
            size = 0;
        }

        void insert(int at, int stop) {
            if (size >= row.length) {
                return;
            }
            for (int i = size; i > at; i--) {
                row[i] = row[i - 1];
            }
            row[at] = stop;
            size++;
        }

        void append(int stop) {
            insert(size, stop);
        }

        /** Takes the stop out, if it is in. */
        void drop(int stop) {
            int kept = 0;
            for (int i = 0; i < size; i++) {
                if (row[i] != stop) {
                    row[kept] = row[i];
                    kept++;
                }
            }
            size = kept;
        }
    }

    /** Lays out the stops that are walked in the order of a kind. */
    private static final class Planner {
        private final Floor floor;
        private final Stops stops;
        private final LeastOrder leastOrder;
        private final int[] keys = new int[MOST_STOPS];
        // The stops that are walked; nearest takes them out one by one.
        private final boolean[] waiting = new boolean[MOST_STOPS];

        Planner(Floor floor, Stops stops) {
            this.floor = floor;
            this.stops = stops;
            this.leastOrder = new LeastOrder(stops);
        }

        void lay(int kind, int here, Route route) {
            route.clear();
            for (int stop = 0; stop < stops.size; stop++) {
                waiting[stop] = stops.isWalked(stop);
            }
            if (kind == LEAST) {
                leastOrder.lay(here, route);
            } else if (kind == NEAREST) {
                layNearest(here, route);
            } else {
                layByKeys(kind, route);
            }
        }

        private void layNearest(int here, Route route) {
            int at = here;
            int rounds = stops.walkedOnes();
            for (int round = 0; round < rounds; round++) {
                int next = nearestFrom(at);
                waiting[next] = false;
                route.append(next);
                at = next;
            }
        }

        private int nearestFrom(int at) {
            int nearest = 0;
            int least = ENDLESS;
            for (int stop = 0; stop < stops.size; stop++) {
                if (waiting[stop] && stops.way(at, stop) < least) {
                    least = stops.way(at, stop);
                    nearest = stop;
                }
            }
            return nearest;
        }

        /** Stops come in by number and stay behind equal keys: so those of one place are by number. */
        private void layByKeys(int kind, Route route) {
            for (int stop = 0; stop < stops.size; stop++) {
                if (waiting[stop]) {
                    keys[stop] = keyOf(kind, stop);
                    int at = route.size;
                    while (at > 0 && keys[route.row[at - 1]] > keys[stop]) {
                        at--;
                    }
                    route.insert(at, stop);
                }
            }
        }

        private int keyOf(int kind, int stop) {
            switch (kind) {
                case LARGEST_GAP:
                    return gapKey(stop);
                case THERE_AND_BACK:
                    return upward(stops.aisle[stop], stop);
                default:
                    return throughKey(stop);
            }
        }

        private int throughKey(int stop) {
            int aisle = stops.aisle[stop];
            boolean isUpward = usedAislesBelow(aisle) % 2 == 0;
            return isUpward ? upward(aisle, stop) : downward(aisle, stop);
        }

        /** Legs: 0 the first aisle, then the back ones by aisle, the last aisle, the front ones by aisle backward. */
        private int gapKey(int stop) {
            int aisle = stops.aisle[stop];
            if (usedAislesBelow(aisle) == 0) {
                return upward(0, stop);
            }
            if (!isUsedAbove(aisle)) {
                return downward(MOST_AISLES, stop);
            }
            if (stops.depth[stop] > gapStart(aisle)) {
                return downward(aisle, stop);
            }
            return upward(2 * MOST_AISLES - aisle, stop);
        }

        private int upward(int leg, int stop) {
            return leg * MOST_PLACES + stops.place[stop];
        }

        private int downward(int leg, int stop) {
            return leg * MOST_PLACES + MOST_PLACES - 1 - stops.place[stop];
        }

        private int usedAislesBelow(int aisle) {
            int found = 0;
            for (int lower = 0; lower < aisle; lower++) {
                if (isUsed(lower)) {
                    found++;
                }
            }
            return found;
        }

        private boolean isUsedAbove(int aisle) {
            for (int upper = aisle + 1; upper < floor.aisles; upper++) {
                if (isUsed(upper)) {
                    return true;
                }
            }
            return false;
        }

        private boolean isUsed(int aisle) {
            for (int stop = 0; stop < stops.size; stop++) {
                if (waiting[stop] && stops.aisle[stop] == aisle) {
                    return true;
                }
            }
            return false;
        }

        /** The depth of the front end of the aisle's greatest gap. */
        private int gapStart(int aisle) {
            int start = 0;
            int greatest = 0;
            int depth = 0;
            // There is one gap more than stops at most; behind the back the gaps are 0.
            for (int gap = 0; gap <= stops.size; gap++) {
                int next = nextDepth(aisle, depth);
                if (next - depth > greatest) {
                    greatest = next - depth;
                    start = depth;
                }
                depth = next;
            }
            return start;
        }

        private int nextDepth(int aisle, int depth) {
            int next = floor.backDepth();
            for (int stop = 0; stop < stops.size; stop++) {
                if (waiting[stop] && stops.aisle[stop] == aisle && stops.depth[stop] > depth) {
                    next = Math.min(next, stops.depth[stop]);
                }
            }
            return next;
        }
    }

    /** The order with the least length, by the least rests of walks through every set of stops. */
    private static final class LeastOrder {
        private final Stops stops;
        private final int[] members = new int[MOST_FOR_LEAST];
        private int size = 0;
        // For each set of members (as bits) and each member outside of it the least way from there through the set home.
        private final int[] rests = new int[MOST_FOR_LEAST << MOST_FOR_LEAST];

        LeastOrder(Stops stops) {
            this.stops = stops;
        }

        void lay(int here, Route route) {
            gather();
            fillRests();
            int at = here;
            int set = (1 << size) - 1;
            for (int round = 0; round < size; round++) {
                int next = bestNext(at, set);
                set &= ~(1 << next);
                at = members[next];
                route.append(at);
            }
        }

        private void gather() {
            size = 0;
            for (int stop = 0; stop < stops.size && size < MOST_FOR_LEAST; stop++) {
                if (stops.isWalked(stop)) {
                    members[size] = stop;
                    size++;
                }
            }
        }

        private void fillRests() {
            for (int member = 0; member < size; member++) {
                rests[member] = stops.way(members[member], DEPOT);
            }
            for (int set = 1; set < 1 << size; set++) {
                for (int member = 0; member < size; member++) {
                    if (!isIn(set, member)) {
                        int next = bestNext(members[member], set);
                        rests[set * MOST_FOR_LEAST + member] = lengthBy(members[member], set, next);
                    }
                }
            }
        }

        /** Of equal ones the lowest member, so that the order is the first one by numbers. */
        private int bestNext(int at, int set) {
            int best = 0;
            int least = ENDLESS;
            for (int member = 0; member < size; member++) {
                if (isIn(set, member)) {
                    int length = lengthBy(at, set, member);
                    if (length < least) {
                        least = length;
                        best = member;
                    }
                }
            }
            return best;
        }

        private static boolean isIn(int set, int member) {
            return (set >> member & 1) == 1;
        }

        private int lengthBy(int at, int set, int member) {
            return stops.way(at, members[member]) + rests[(set & ~(1 << member)) * MOST_FOR_LEAST + member];
        }
    }
}
