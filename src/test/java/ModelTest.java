import java.util.ArrayList;
import java.util.Comparator;
import java.util.HashMap;
import java.util.List;
import java.util.Map;
import java.util.NoSuchElementException;
import java.util.Random;

/** Runs of chosen calls (the same ones each time), answered by the class and by a slow model of the document. */
public final class ModelTest {
    private static final int RUNS = 4000;
    private static final int CALLS = 30;

    private static final class Stop {
        final int number;
        final int aisle;
        final int place;
        final int pieces;
        int state = 0;

        Stop(int number, int aisle, int place, int pieces) {
            this.number = number;
            this.aisle = aisle;
            this.place = place;
            this.pieces = pieces;
        }

        int depth() {
            return place + 1 + place / 10;
        }
    }

    /** The shortest ways on the floor as a net of single metres in aisles and of three along cross aisles. */
    private static final class Net {
        private static final Map<Integer, Net> MADE = new HashMap<>();
        final int depths;
        final int[][] ways;

        static Net of(int aisles, int blocks) {
            return MADE.computeIfAbsent(aisles * 10 + blocks, key -> new Net(aisles, blocks));
        }

        private Net(int aisles, int blocks) {
            depths = 11 * blocks + 1;
            int nodes = aisles * depths;
            ways = new int[nodes][nodes];
            for (int a = 0; a < nodes; a++) {
                for (int b = 0; b < nodes; b++) {
                    ways[a][b] = a == b ? 0 : edge(a, b);
                }
            }
            for (int via = 0; via < nodes; via++) {
                for (int a = 0; a < nodes; a++) {
                    for (int b = 0; b < nodes; b++) {
                        ways[a][b] = Math.min(ways[a][b], ways[a][via] + ways[via][b]);
                    }
                }
            }
        }

        private int edge(int a, int b) {
            int aisles = Math.abs(a / depths - b / depths);
            int metres = Math.abs(a % depths - b % depths);
            if (aisles == 0 && metres == 1) {
                return 1;
            }
            return aisles == 1 && metres == 0 && a % depths % 11 == 0 ? 3 : 100_000;
        }

        int node(Stop stop) {
            return stop == null ? 0 : stop.aisle * depths + stop.depth();
        }

        int way(Stop a, Stop b) {
            return ways[node(a)][node(b)];
        }
    }

    private static final class Model {
        final int aisles;
        final int blocks;
        final Net net;
        final List<Stop> stops = new ArrayList<>();
        final boolean[] closed;
        List<Stop> walk = new ArrayList<>();
        Stop here = null;
        int metres = 0;
        int room = 100;

        Model(int aisles, int blocks) {
            this.aisles = aisles < 1 ? 1 : aisles > 8 ? 8 : aisles;
            this.blocks = blocks < 1 ? 1 : blocks > 3 ? 3 : blocks;
            net = Net.of(this.aisles, this.blocks);
            closed = new boolean[this.aisles];
        }

        boolean walked(Stop stop) {
            return stop.state == 0 && stop.pieces > 0 && !closed[stop.aisle];
        }

        List<Stop> allWalked() {
            List<Stop> all = new ArrayList<>(stops);
            all.removeIf(stop -> !walked(stop));
            return all;
        }

        Stop numbered(int stop) {
            if (stop < 0 || stop >= stops.size()) {
                throw new NoSuchElementException();
            }
            return stops.get(stop);
        }

        int length(List<Stop> order) {
            int sum = 0;
            Stop at = here;
            for (Stop stop : order) {
                sum += net.way(at, stop);
                at = stop;
            }
            return sum + net.way(at, null);
        }

        int stop(int aisle, int place, int pieces) {
            if (aisle < 0 || aisle >= aisles) {
                throw new NoSuchElementException();
            }
            if (place < 0 || place >= 10 * blocks || pieces < 0 || pieces > 100) {
                throw new IllegalArgumentException();
            }
            if (stops.size() == 10) {
                throw new UnsupportedOperationException();
            }
            stops.add(new Stop(stops.size(), aisle, place, pieces));
            return stops.size() - 1;
        }

        int closed(int aisle, boolean on) {
            if (aisle < 0 || aisle >= aisles) {
                throw new NoSuchElementException();
            }
            closed[aisle] = on;
            return (int) stops.stream().filter(stop -> stop.aisle == aisle && stop.state == 0).count();
        }

        int walk(int kind) {
            if (kind < 0 || kind > 4) {
                throw new IllegalArgumentException();
            }
            List<Stop> all = allWalked();
            if (kind == 4 && all.size() > 8) {
                throw new IllegalStateException();
            }
            switch (kind) {
                case 0 -> walk = through(all);
                case 1 -> walk = thereAndBack(all);
                case 2 -> walk = largestGap(all);
                case 3 -> walk = nearest(all);
                default -> walk = least(all);
            }
            return length(walk);
        }

        static List<Stop> sorted(List<Stop> all, boolean upward) {
            List<Stop> row = new ArrayList<>(all);
            Comparator<Stop> byPlace = Comparator.comparingInt(stop -> upward ? stop.place : -stop.place);
            row.sort(byPlace.thenComparingInt(stop -> stop.number));
            return row;
        }

        List<List<Stop>> byAisles(List<Stop> all) {
            List<List<Stop>> rows = new ArrayList<>();
            for (int i = 0; i < aisles; i++) {
                int aisle = i;
                List<Stop> row = all.stream().filter(stop -> stop.aisle == aisle).toList();
                if (!row.isEmpty()) {
                    rows.add(row);
                }
            }
            return rows;
        }

        List<Stop> through(List<Stop> all) {
            List<Stop> order = new ArrayList<>();
            boolean upward = true;
            for (List<Stop> row : byAisles(all)) {
                order.addAll(sorted(row, upward));
                upward = !upward;
            }
            return order;
        }

        List<Stop> thereAndBack(List<Stop> all) {
            List<Stop> order = new ArrayList<>();
            for (List<Stop> row : byAisles(all)) {
                order.addAll(sorted(row, true));
            }
            return order;
        }

        /** How many of the aisle's stops, by places, lie before its greatest gap. */
        int frontOnes(List<Stop> row) {
            int[] depths = new int[row.size() + 2];
            for (int i = 0; i < row.size(); i++) {
                depths[i + 1] = row.get(i).depth();
            }
            depths[row.size() + 1] = 11 * blocks;
            int best = 0;
            for (int i = 1; i <= row.size(); i++) {
                if (depths[i + 1] - depths[i] > depths[best + 1] - depths[best]) {
                    best = i;
                }
            }
            return best;
        }

        List<Stop> largestGap(List<Stop> all) {
            List<List<Stop>> rows = byAisles(all);
            if (rows.isEmpty()) {
                return new ArrayList<>();
            }
            List<Stop> order = new ArrayList<>(sorted(rows.get(0), true));
            List<Stop> fronts = new ArrayList<>();
            for (int i = 1; i < rows.size() - 1; i++) {
                List<Stop> row = sorted(rows.get(i), true);
                int front = frontOnes(row);
                order.addAll(sorted(row.subList(front, row.size()), false));
                fronts.addAll(0, row.subList(0, front));
            }
            if (rows.size() > 1) {
                order.addAll(sorted(rows.get(rows.size() - 1), false));
            }
            order.addAll(fronts);
            return order;
        }

        List<Stop> nearest(List<Stop> all) {
            List<Stop> rest = new ArrayList<>(all);
            List<Stop> order = new ArrayList<>();
            Stop at = here;
            while (!rest.isEmpty()) {
                Stop from = at;
                at = rest.stream().min(Comparator.<Stop>comparingInt(stop -> net.way(from, stop))
                    .thenComparingInt(stop -> stop.number)).get();
                rest.remove(at);
                order.add(at);
            }
            return order;
        }

        List<Stop> least(List<Stop> all) {
            List<Stop> best = new ArrayList<>(all);
            tryOrders(new ArrayList<>(), all, best);
            return best;
        }

        /** All orders, the first ones by numbers first. */
        private void tryOrders(List<Stop> begun, List<Stop> all, List<Stop> best) {
            if (begun.size() == all.size()) {
                if (length(begun) < length(best)) {
                    best.clear();
                    best.addAll(begun);
                }
                return;
            }
            for (Stop stop : all) {
                if (!begun.contains(stop)) {
                    begun.add(stop);
                    tryOrders(begun, all, best);
                    begun.remove(begun.size() - 1);
                }
            }
        }

        int step(int i) {
            if (i < 0 || i >= walk.size()) {
                throw new ArrayIndexOutOfBoundsException();
            }
            return walk.get(i).number;
        }

        int go() {
            if (walk.isEmpty() || closed[walk.get(0).aisle]) {
                throw new IllegalStateException();
            }
            Stop next = walk.remove(0);
            metres += net.way(here, next);
            next.state = 1;
            here = next;
            return next.number;
        }

        int missing(int number) {
            Stop stop = numbered(number);
            if (stop.state != 0) {
                throw new IllegalStateException();
            }
            stop.state = 2;
            walk.remove(stop);
            return length(walk);
        }

        int bound() {
            return allWalked().stream().mapToInt(stop -> here == null ? 2 * net.way(null, stop)
                : net.way(here, stop) + net.way(stop, null)).max().orElse(0);
        }

        int cart(int pieces) {
            if (pieces < 1 || pieces > 1000) {
                throw new IllegalArgumentException();
            }
            room = pieces;
            return 0;
        }

        int full() {
            List<List<Stop>> loads = new ArrayList<>();
            int free = 0;
            for (Stop stop : walk) {
                if (loads.isEmpty() || stop.pieces > free) {
                    loads.add(new ArrayList<>());
                    free = room;
                }
                loads.get(loads.size() - 1).add(stop);
                free -= stop.pieces;
            }
            if (loads.isEmpty()) {
                return net.way(here, null);
            }
            int sum = 0;
            Stop at = here;
            for (List<Stop> load : loads) {
                for (Stop stop : load) {
                    sum += net.way(at, stop);
                    at = stop;
                }
                sum += net.way(at, null);
                at = null;
            }
            return sum;
        }

        int share(int number) {
            Stop stop = numbered(number);
            if (metres == 0) {
                throw new ArithmeticException();
            }
            return 100 * net.way(here, stop) / metres;
        }

        int far(int stop, int other) {
            return net.way(numbered(stop), numbered(other));
        }

        int told(int number, int what) {
            Stop stop = numbered(number);
            if (what < 0 || what > 4) {
                throw new IllegalArgumentException();
            }
            return new int[] {stop.aisle, stop.place, stop.pieces, stop.state, walked(stop) ? 1 : 0}[what];
        }

        int count(int what) {
            if (what < 0 || what > 7) {
                return -1;
            }
            int done = (int) stops.stream().filter(stop -> stop.state == 1).count();
            return new int[] {stops.size(), allWalked().size(), walk.size(), aisles, blocks, metres, done,
                here == null ? -1 : here.number}[what];
        }
    }

    /** One object, its model, and the calls that it has had. */
    private static final class Run {
        final Checks checks;
        final Random random;
        final PickPaths object;
        final Model model;
        final StringBuilder told = new StringBuilder();
        final int spread;

        Run(Checks checks, int seed) {
            this.checks = checks;
            random = new Random(seed);
            int aisles = random.nextInt(11) - 1;
            int blocks = random.nextInt(6) - 1;
            // Few aisles and places in use bring many stops to one place and many equal ways.
            spread = 1 + random.nextInt(30);
            object = new PickPaths(aisles, blocks);
            model = new Model(aisles, blocks);
            told.append("new(").append(aisles).append(", ").append(blocks).append(")");
        }

        /** Mostly 0 .. most, now and then beside it or far off. */
        int number(int most) {
            switch (random.nextInt(40)) {
                case 0:
                    return -1;
                case 1:
                    return most + 1;
                case 2:
                    return random.nextBoolean() ? Integer.MAX_VALUE : Integer.MIN_VALUE;
                default:
                    return random.nextInt(most + 1);
            }
        }

        int anyStop() {
            return number(Math.max(0, model.stops.size() - 1));
        }

        void compare(String call, Checks.Call due, Checks.Call got) {
            told.append(' ').append(call);
            checks.same(told.toString(), Checks.outcome(got), Checks.outcome(due));
        }

        void stopCall() {
            int aisle = number(model.aisles - 1);
            int place = number(Math.min(spread, 10 * model.blocks) - 1);
            int pieces = random.nextInt(8) == 0 ? 0 : number(100);
            compare("stop(" + aisle + ", " + place + ", " + pieces + ")",
                () -> model.stop(aisle, place, pieces), () -> object.stop(aisle, place, pieces));
        }

        void walkCall() {
            // The model tries all orders, so it lays out many stops by kind 4 in few runs only.
            int kind = number(4);
            int size = model.allWalked().size();
            int asked = kind == 4 && (size == 7 || size == 8) && random.nextInt(8) > 0 ? 2 : kind;
            compare("walk(" + asked + ")", () -> model.walk(asked), () -> object.walk(asked));
        }

        void closedCall() {
            int aisle = number(model.aisles - 1);
            boolean on = random.nextInt(3) == 0;
            compare("closed(" + aisle + ", " + on + ")",
                () -> model.closed(aisle, on), () -> object.closed(aisle, on));
        }

        void missingCall() {
            int stop = anyStop();
            compare("missing(" + stop + ")", () -> model.missing(stop), () -> object.missing(stop));
        }

        void cartCall() {
            int pieces = random.nextBoolean() ? number(1000) : number(150);
            compare("cart(" + pieces + ")", () -> model.cart(pieces), () -> {
                object.cart(pieces);
                return 0;
            });
        }

        void askCall() {
            int stop = anyStop();
            int other = anyStop();
            int what = number(4);
            int i = number(9);
            compare("share(" + stop + ")", () -> model.share(stop), () -> object.share(stop));
            compare("far(" + stop + ", " + other + ")", () -> model.far(stop, other), () -> object.far(stop, other));
            compare("told(" + stop + ", " + what + ")",
                () -> model.told(stop, what), () -> object.told(stop, what));
            compare("step(" + i + ")", () -> model.step(i), () -> object.step(i));
        }

        void changeCall(int i) {
            int choice = random.nextInt(20);
            if (i < 4 || choice < 6) {
                stopCall();
            } else if (choice < 10) {
                walkCall();
            } else if (choice < 15) {
                compare("go()", model::go, object::go);
            } else if (choice < 17) {
                closedCall();
            } else if (choice < 18) {
                missingCall();
            } else {
                cartCall();
            }
        }

        void compareState() {
            compare("left()", () -> model.length(model.walk), object::left);
            compare("full()", model::full, object::full);
            compare("bound()", model::bound, object::bound);
            int what = number(7);
            compare("count(" + what + ")", () -> model.count(what), () -> object.count(what));
        }

        void compareSteps() {
            for (int i = 0; i <= model.walk.size(); i++) {
                int step = i;
                compare("step(" + i + ")", () -> model.step(step), () -> object.step(step));
            }
        }
    }

    public static void main(String[] args) {
        Checks checks = new Checks();
        for (int seed = 0; seed < RUNS; seed++) {
            Run run = new Run(checks, seed);
            for (int i = 0; i < CALLS; i++) {
                run.changeCall(i);
                run.compareState();
                if (i % 3 == 0) {
                    run.askCall();
                    run.compareSteps();
                }
            }
        }
        checks.finish();
    }
}
