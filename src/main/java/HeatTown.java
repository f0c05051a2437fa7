import java.util.Arrays;

/** Warm water under a town; ../shared/DOC.md says what each call promises. */
public final class HeatTown {
    public static final int NONE = -1;

    private static final int MOST_NODES = 12;
    private static final int MOST_PIPES = 20;
    private static final int MOST_HOUSES = 16;
    private static final int MOST_BOILERS = 4;
    private static final int MOST_RULES = 12;
    private static final int MOST_FACTS = 200;
    private static final int MOST_BYTES = 300;
    private static final int MOST_PLACES = 4;
    private static final int MOST_NUMBERS = 60;
    private static final int MOST_STEPS = 40;
    private static final int MOST_PLANNED = 24;
    private static final int LONGEST = 60;
    private static final int LAST_HOUR = 5000;
    private static final int MOST_HOURS = 48;
    private static final int MOST_HEAT = 200000;
    private static final int MOST_PRICE = 1000;

    private static final int PLANT = 0;
    private static final int OUT = 0;
    private static final int BACK = 1;
    private static final int WARM_OUT = 6000;
    private static final int WARM_BACK = 3000;
    private static final int NO_BACK = 30;

    private static final int WRONG = -2;
    private static final int FULL = -3;
    private static final int UNFIT = -4;
    private static final int NOTHING = -5;
    private static final int BEYOND = -6;
    private static final int CLASH = -7;
    private static final int WRONG_LENGTH = -8;
    private static final int TOO_LATE = -9;
    private static final int NO_PIPE = -1000;

    private static final int BOILED = 0;
    private static final int MILLED = 1;
    private static final int USED = 2;
    private static final int LOST = 3;
    private static final int COSTS = 4;
    private static final int COLD = 5;
    private static final int TOTALS = 6;

    private final Net net;
    private final Flows flows;
    private final Rules laws;
    private final Reader reader;
    private final Series airs;
    private final Works works;
    private final Store depot;
    private final Hour clock;
    private final State now;
    private final State later;
    private final Places places;
    private final Meters meters;
    private final int[] gotBefore;
    private final long[] aheadCold;
    private final int[] aheadFirst;
    private int aheadHouses;

    public HeatTown() {
        net = new Net();
        flows = new Flows(net);
        laws = new Rules();
        reader = new Reader(laws);
        airs = new Series();
        works = new Works();
        depot = new Store(works);
        clock = new Hour(net, flows, laws, airs, works, depot);
        now = new State();
        later = new State();
        places = new Places();
        meters = new Meters();
        gotBefore = new int[MOST_HOUSES];
        aheadCold = new long[MOST_HOUSES];
        aheadFirst = new int[MOST_HOUSES];
        aheadHouses = NONE;
    }

    public int terms(int ground, int least) {
        if (!isWithin(ground, 0, 20) || !isWithin(least, 15, 50)) {
            return WRONG;
        }
        clock.ground = ground;
        clock.least = least;
        return 0;
    }

    public int node() {
        if (net.nodes >= MOST_NODES) {
            return FULL;
        }
        net.nodes++;
        net.version++;
        return net.nodes - 1;
    }

    public int pipe(int a, int b, int length, int wide, int loss, boolean valveA, boolean valveB) {
        if (!net.hasNode(a) || !net.hasNode(b) || a == b || !isWithin(length, 4, LONGEST)
                || !isWithin(wide, 1, length) || !isWithin(loss, 0, 200)) {
            return WRONG;
        }
        if (net.pipes >= MOST_PIPES) {
            return FULL;
        }
        int added = net.addPipe(a, b, length, wide, loss);
        net.valved[2 * added] = valveA;
        net.valved[2 * added + 1] = valveB;
        now.fillPipe(added);
        return added;
    }

    public int house(int node, int size, int rank) {
        if (!isHouse(node, size, rank)) {
            return WRONG;
        }
        if (net.houses >= MOST_HOUSES) {
            return FULL;
        }
        return net.addHouse(node, size, rank);
    }

    public boolean valve(int pipe, int end, boolean shut) {
        return net.hasPipe(pipe) && isWithin(end, 0, 1) && net.turnValve(2 * pipe + end, shut);
    }

    public boolean burst(int pipe, boolean is) {
        if (!net.hasPipe(pipe) || net.broken[pipe] == is) {
            return false;
        }
        net.broken[pipe] = is;
        net.version++;
        return true;
    }

    public int air(int place) {
        int refusal = places.refusal(place);
        if (refusal != 0) {
            return refusal;
        }
        if (places.lengths[place] == 0) {
            return WRONG_LENGTH;
        }
        if (!places.holdsWithin(place, -40, 40)) {
            return UNFIT;
        }
        return airs.take(places, place, now.hour);
    }

    public int boiler(int most, int cost) {
        if (!isWithin(most, 1, MOST_HEAT) || !isWithin(cost, 0, MOST_PRICE)) {
            return WRONG;
        }
        if (works.boilers >= MOST_BOILERS) {
            return FULL;
        }
        return works.addBoiler(most, cost);
    }

    public int store(int most, int step) {
        if (!isWithin(most, 0, 1000000) || !isWithin(step, 1, MOST_HEAT)) {
            return WRONG;
        }
        if (now.hour > 0 || depot.isLive || most / step > MOST_STEPS) {
            return TOO_LATE;
        }
        depot.holds = most;
        depot.step = step;
        return 0;
    }

    public int mill(int place, int price) {
        if (!isWithin(price, 0, MOST_PRICE)) {
            return WRONG;
        }
        int refusal = places.refusal(place);
        if (refusal != 0) {
            return refusal;
        }
        if (!places.holdsWithin(place, 0, MOST_HEAT)) {
            return UNFIT;
        }
        works.millPrice = price;
        return works.offers.take(places, place, now.hour);
    }

    public int feed(int a, int b, int c, int d, int e) {
        if (reader.bytes + 20 > MOST_BYTES) {
            return NONE;
        }
        reader.addBytes(a);
        reader.addBytes(b);
        reader.addBytes(c);
        reader.addBytes(d);
        reader.addBytes(e);
        return reader.bytes;
    }

    public int end(int n) {
        if (!isWithin(n, 0, reader.bytes)) {
            return NONE;
        }
        reader.bytes = n;
        return n;
    }

    public int rules() {
        return reader.readTape() ? laws.rules : UNFIT;
    }

    public int fault() {
        return reader.faultAt;
    }

    public int go(int hours) {
        if (!isWithin(hours, 1, MOST_HOURS)) {
            return WRONG;
        }
        if (now.hour + hours > LAST_HOUR) {
            return FULL;
        }
        for (int i = 0; i < hours; i++) {
            clock.pass(now);
        }
        return now.hour;
    }

    public long ahead(int hours, int what) {
        if (!isWithin(hours, 1, MOST_HOURS) || !isWithin(what, 0, 3)) {
            return WRONG;
        }
        startAhead();
        int first = NONE;
        for (int i = 0; i < hours; i++) {
            int hour = later.hour;
            clock.pass(later);
            if (noteCold(hour) && first == NONE) {
                first = hour;
            }
        }
        switch (what) {
            case 0:
                return later.totals[COLD] - now.totals[COLD];
            case 1:
                return first;
            case 2:
                return later.totals[LOST] - now.totals[LOST];
            default:
                return later.totals[COSTS] - now.totals[COSTS];
        }
    }

    public long aheadOf(int house, int what) {
        if (!isWithin(house, 0, aheadHouses - 1) || !isWithin(what, 0, 1)) {
            return WRONG;
        }
        return what == 0 ? aheadCold[house] : aheadFirst[house];
    }

    public int flow(int pipe) {
        if (!net.hasPipe(pipe)) {
            return NO_PIPE;
        }
        clock.settleFlows(now);
        return flows.inPipe[pipe];
    }

    public int gets(int house, int what) {
        if (!net.hasHouse(house) || !isWithin(what, 0, 1)) {
            return WRONG;
        }
        clock.settleFlows(now);
        return what == 0 ? flows.wanted[house] : flows.got[house];
    }

    public int would(int node, int size, int rank, int what) {
        if (!isHouse(node, size, rank) || !isWithin(what, 0, 1)) {
            return WRONG;
        }
        if (net.houses >= MOST_HOUSES) {
            return FULL;
        }
        clock.settleFlows(now);
        System.arraycopy(flows.got, 0, gotBefore, 0, MOST_HOUSES);
        int added = net.addHouse(node, size, rank);
        clock.settleFlows(now);
        net.dropHouse();
        return what == 0 ? countPoorer(added) : flows.got[added];
    }

    public long cut(int pipe, int what) {
        if (!net.hasPipe(pipe) || !isWithin(what, 0, 2)) {
            return WRONG;
        }
        net.spill(pipe);
        switch (what) {
            case 0:
                return net.toShut;
            case 1:
                return net.dryNodes();
            default:
                return net.dryHouses();
        }
    }

    public int isolate(int pipe) {
        if (!net.hasPipe(pipe)) {
            return WRONG;
        }
        if (net.broken[pipe]) {
            return CLASH;
        }
        net.spill(pipe);
        net.broken[pipe] = true;
        net.version++;
        int changed = 0;
        for (int i = 0; i < 2 * net.pipes; i++) {
            if ((net.toShut >> i & 1L) != 0 && net.turnValve(i, true)) {
                changed++;
            }
        }
        return changed;
    }

    public long plan(int place) {
        int refusal = places.refusal(place);
        if (refusal != 0) {
            return refusal;
        }
        if (!isWithin(places.lengths[place], 1, MOST_PLANNED)) {
            return WRONG_LENGTH;
        }
        if (!places.holdsWithin(place, 0, 800000)) {
            return UNFIT;
        }
        return depot.seek(places, place, now);
    }

    public int planned(int k) {
        return isWithin(k, 0, depot.hours - 1) ? depot.levels[k] : NONE;
    }

    public int meter(int pipe, int end, int hour, int units) {
        if (!net.hasPipe(pipe) || !isWithin(end, 0, 1) || !isWithin(hour, 0, now.hour) || !isWithin(units, 0, 1000)) {
            return WRONG;
        }
        if (meters.facts >= MOST_FACTS) {
            return FULL;
        }
        return meters.addFact(2 * pipe + end, hour, units);
    }

    public int leak(int pipe, int n, int drift, int what) {
        if (!net.hasPipe(pipe) || !isWithin(n, 0, meters.facts) || !isWithin(drift, 0, 50) || !isWithin(what, 0, 1)) {
            return WRONG;
        }
        if (!meters.findSpan(pipe, n, drift)) {
            return NONE;
        }
        if (meters.least > meters.greatest) {
            return CLASH;
        }
        return what == 0 ? meters.least : meters.greatest;
    }

    public int unit(int pipe, int k, int what) {
        if (!net.hasPipe(pipe) || !isWithin(k, 0, net.longs[pipe] - 1) || !isWithin(what, OUT, BACK)) {
            return NONE;
        }
        return now.units[firstUnit(pipe, what) + k];
    }

    public int houseOf(int house, int what) {
        if (!net.hasHouse(house)) {
            return WRONG;
        }
        switch (what) {
            case 0:
                return net.homes[house];
            case 1:
                return net.sizes[house];
            case 2:
                return net.ranks[house];
            case 3:
                return now.lastUnits[house];
            case 4:
                return now.lastUnits[house] == 0 ? NONE : (int) now.lastWarm[house];
            case 5:
                return now.coldHours[house];
            default:
                return WRONG;
        }
    }

    public long sums(int house, int what) {
        if (!net.hasHouse(house)) {
            return WRONG;
        }
        switch (what) {
            case 0:
                return now.used[house];
            case 1:
                return now.cold[house];
            case 2:
                return now.billed[house];
            case 3:
                return now.billedLost[house];
            default:
                return WRONG;
        }
    }

    public int pipeOf(int pipe, int what) {
        if (!net.hasPipe(pipe)) {
            return NO_PIPE;
        }
        switch (what) {
            case 0:
                return net.starts[pipe];
            case 1:
                return net.ends[pipe];
            case 2:
                return net.longs[pipe];
            case 3:
                return net.wides[pipe];
            case 4:
                return net.losses[pipe];
            case 5:
                return net.isOpen(pipe) ? 1 : 0;
            case 6:
                return net.broken[pipe] ? 1 : 0;
            case 7:
                return now.lastFlow[pipe];
            default:
                return NO_PIPE;
        }
    }

    public long sum(int what) {
        if (isWithin(what, 0, TOTALS - 1)) {
            return now.totals[what];
        }
        if (what == 6) {
            return standing();
        }
        return what == 7 ? now.stored : 0;
    }

    public int count(int what) {
        switch (what) {
            case 0:
                return now.hour;
            case 1:
                return net.nodes;
            case 2:
                return net.pipes;
            case 3:
                return net.houses;
            case 4:
                return works.boilers;
            case 5:
                return laws.rules;
            case 6:
                return reader.bytes;
            case 7:
                return airs.lastingAt(now.hour);
            case 8:
                return meters.facts;
            case 9:
                return places.countRows();
            case 10:
                return now.sendWas;
            default:
                return NONE;
        }
    }

    public int row(int place, int width, int n) {
        if (!isPlace(place) || !isWithin(width, 0, 3) || n > MOST_NUMBERS) {
            return WRONG;
        }
        if (n < 0) {
            return FULL;
        }
        places.makeRow(place, width, n);
        return 0;
    }

    public boolean tear(int place) {
        if (!isPlace(place) || places.lengths[place] == NONE) {
            return false;
        }
        places.lengths[place] = NONE;
        return true;
    }

    public int write(int place, int i, long v) {
        int refusal = places.refusal(place);
        if (refusal != 0) {
            return refusal;
        }
        if (!isWithin(i, 0, places.lengths[place] - 1)) {
            return BEYOND;
        }
        places.setNumber(place, i, v);
        return 0;
    }

    public int paste(int place, int i, int to, int k, int n) {
        if (!isPlace(place) || !isPlace(to)) {
            return WRONG;
        }
        if (places.lengths[place] == NONE || places.lengths[to] == NONE) {
            return NOTHING;
        }
        if (places.widths[place] != places.widths[to]) {
            return CLASH;
        }
        if (n < 0 || !isWithin(i, 0, places.lengths[place] - n) || !isWithin(k, 0, places.lengths[to] - n)) {
            return BEYOND;
        }
        places.copyNumbers(place, i, to, k, n);
        return 0;
    }

    private static boolean isWithin(long value, long least, long most) {
        return value >= least && value <= most;
    }

    private static boolean isPlace(int place) {
        return isWithin(place, 0, MOST_PLACES - 1);
    }

    private static int firstUnit(int pipe, int way) {
        return (2 * pipe + way) * LONGEST;
    }

    private boolean isHouse(int node, int size, int rank) {
        return net.hasNode(node) && node != PLANT && isWithin(size, 1, 50) && isWithin(rank, 0, 99);
    }

    private int countPoorer(int houses) {
        int poorer = 0;
        for (int h = 0; h < houses; h++) {
            if (flows.got[h] < gotBefore[h]) {
                poorer++;
            }
        }
        return poorer;
    }

    private void startAhead() {
        later.copyFrom(now);
        aheadHouses = net.houses;
        Arrays.fill(aheadCold, 0L);
        Arrays.fill(aheadFirst, NONE);
    }

    /** Keeps who was cold in an hour of the copy; answers whether some house was. */
    private boolean noteCold(int hour) {
        boolean some = false;
        for (int h = 0; h < aheadHouses; h++) {
            long cold = later.cold[h] - now.cold[h];
            if (cold > aheadCold[h]) {
                some = true;
                if (aheadFirst[h] == NONE) {
                    aheadFirst[h] = hour;
                }
            }
            aheadCold[h] = cold;
        }
        return some;
    }

    private long standing() {
        long warm = 0;
        for (int p = 0; p < net.pipes; p++) {
            int out = firstUnit(p, OUT);
            int back = firstUnit(p, BACK);
            for (int k = 0; k < net.longs[p]; k++) {
                warm += now.units[out + k] + now.units[back + k];
            }
        }
        return warm;
    }

    /** What stands in the ground: nodes, pipes with their valves, houses. End e of pipe p is number 2 p + e. */
    private static final class Net {
        int nodes = 1;
        int pipes = 0;
        int houses = 0;
        /** Another number after each change, so that flows need not be sought twice. */
        int version = 0;
        final int[] starts = new int[MOST_PIPES];
        final int[] ends = new int[MOST_PIPES];
        final int[] longs = new int[MOST_PIPES];
        final int[] wides = new int[MOST_PIPES];
        final int[] losses = new int[MOST_PIPES];
        final boolean[] broken = new boolean[MOST_PIPES];
        final boolean[] valved = new boolean[2 * MOST_PIPES];
        final boolean[] shut = new boolean[2 * MOST_PIPES];
        final int[] homes = new int[MOST_HOUSES];
        final int[] sizes = new int[MOST_HOUSES];
        final int[] ranks = new int[MOST_HOUSES];
        long toShut = 0;
        private final boolean[] pipeRuns = new boolean[MOST_PIPES];
        private final boolean[] nodeRuns = new boolean[MOST_NODES];
        private final boolean[] reached = new boolean[MOST_NODES];

        boolean hasNode(int node) {
            return node >= 0 && node < nodes;
        }

        boolean hasPipe(int pipe) {
            return pipe >= 0 && pipe < pipes;
        }

        boolean hasHouse(int house) {
            return house >= 0 && house < houses;
        }

        int addPipe(int a, int b, int length, int wide, int loss) {
            starts[pipes] = a;
            ends[pipes] = b;
            longs[pipes] = length;
            wides[pipes] = wide;
            losses[pipes] = loss;
            version++;
            return pipes++;
        }

        int addHouse(int node, int size, int rank) {
            homes[houses] = node;
            sizes[houses] = size;
            ranks[houses] = rank;
            version++;
            return houses++;
        }

        void dropHouse() {
            houses--;
            version++;
        }

        boolean turnValve(int number, boolean toBeShut) {
            if (!valved[number] || shut[number] == toBeShut) {
                return false;
            }
            shut[number] = toBeShut;
            version++;
            return true;
        }

        boolean isOpen(int pipe) {
            return !broken[pipe] && !shut[2 * pipe] && !shut[2 * pipe + 1];
        }

        int nodeAt(int pipe, int end) {
            return end == 0 ? starts[pipe] : ends[pipe];
        }

        /** Follows the water of a burst pipe to the valves at which it ends. */
        void spill(int pipe) {
            for (int p = 0; p < pipes; p++) {
                pipeRuns[p] = p == pipe;
            }
            for (int n = 0; n < nodes; n++) {
                nodeRuns[n] = false;
            }
            toShut = 0;
            boolean more = true;
            for (int round = 0; more && round <= MOST_PIPES + MOST_NODES; round++) {
                more = false;
                for (int i = 0; i < 2 * pipes; i++) {
                    more |= runThrough(i);
                }
            }
            reachOthers();
        }

        /** Whether water runs on at this end of a pipe, into the node or out of it. */
        private boolean runThrough(int number) {
            int pipe = number / 2;
            int node = nodeAt(pipe, number % 2);
            if (!pipeRuns[pipe] && !nodeRuns[node]) {
                return false;
            }
            if (valved[number]) {
                toShut |= 1L << number;
                return false;
            }
            boolean more = !pipeRuns[pipe] || !nodeRuns[node];
            pipeRuns[pipe] = true;
            nodeRuns[node] = true;
            return more;
        }

        private void reachOthers() {
            for (int n = 0; n < nodes; n++) {
                reached[n] = n == PLANT;
            }
            boolean more = true;
            for (int round = 0; more && round <= MOST_NODES; round++) {
                more = false;
                for (int p = 0; p < pipes; p++) {
                    boolean leads = isOpen(p) && !pipeRuns[p] && (toShut >> 2 * p & 3L) == 0;
                    if (leads && reached[starts[p]] != reached[ends[p]]) {
                        reached[starts[p]] = true;
                        reached[ends[p]] = true;
                        more = true;
                    }
                }
            }
        }

        private boolean isDry(int node) {
            return nodeRuns[node] || !reached[node];
        }

        long dryNodes() {
            long dry = 0;
            for (int n = 0; n < nodes; n++) {
                if (isDry(n)) {
                    dry |= 1L << n;
                }
            }
            return dry;
        }

        long dryHouses() {
            long dry = 0;
            for (int h = 0; h < houses; h++) {
                if (isDry(homes[h])) {
                    dry |= 1L << h;
                }
            }
            return dry;
        }
    }

    /** Who gets how many units, and through which pipes. */
    private static final class Flows {
        private static final int FAR = 1000000;

        /** From a to b: above 0. */
        final int[] inPipe = new int[MOST_PIPES];
        final int[] wanted = new int[MOST_HOUSES];
        final int[] got = new int[MOST_HOUSES];
        /** Units of house h in pipe p at p * MOST_HOUSES + h. */
        final int[] shares = new int[MOST_PIPES * MOST_HOUSES];
        private final Net net;
        private final int[] room = new int[MOST_PIPES];
        private final boolean[] served = new boolean[MOST_HOUSES];
        private final int[] distances = new int[MOST_NODES];
        private final int[] way = new int[MOST_NODES];
        private int knownVersion = NONE;
        private int knownAir = 0;
        private int knownDrop = 0;

        Flows(Net net) {
            this.net = net;
        }

        void settle(int air, int drop) {
            if (knownVersion == net.version && knownAir == air && knownDrop == drop) {
                return;
            }
            clear();
            for (int h = 0; h < net.houses; h++) {
                wanted[h] = drop <= 0 ? 0 : (needOf(h, air) + drop - 1) / drop;
            }
            for (int turn = 0; turn < net.houses; turn++) {
                serve(nextHouse());
            }
            knownVersion = net.version;
            knownAir = air;
            knownDrop = drop;
        }

        int needOf(int house, int air) {
            return net.sizes[house] * Math.max(0, 20 - air);
        }

        private void clear() {
            Arrays.fill(inPipe, 0);
            Arrays.fill(got, 0);
            Arrays.fill(shares, 0);
            for (int h = 0; h < MOST_HOUSES; h++) {
                served[h] = false;
            }
            for (int p = 0; p < net.pipes; p++) {
                room[p] = net.isOpen(p) ? net.wides[p] : 0;
            }
        }

        private int nextHouse() {
            int next = NONE;
            for (int h = 0; h < net.houses; h++) {
                if (!served[h] && (next == NONE || net.ranks[h] > net.ranks[next])) {
                    next = h;
                }
            }
            if (next != NONE) {
                served[next] = true;
            }
            return next;
        }

        private void serve(int house) {
            if (house == NONE) {
                return;
            }
            // Each way but the last one fills a pipe, so there are no more ways than pipes and one.
            for (int tries = 0; tries <= MOST_PIPES && got[house] < wanted[house]; tries++) {
                measure(net.homes[house]);
                int steps = findWay(net.homes[house]);
                if (steps == 0) {
                    return;
                }
                takeWay(house, steps);
            }
        }

        /** How far it is to the target from each node. */
        private void measure(int target) {
            Arrays.fill(distances, FAR);
            distances[target] = 0;
            boolean more = true;
            for (int round = 0; more && round <= MOST_NODES; round++) {
                more = false;
                for (int p = 0; p < net.pipes; p++) {
                    if (room[p] > 0 && inPipe[p] >= 0) {
                        more |= shorten(net.starts[p], net.ends[p], net.longs[p]);
                    }
                    if (room[p] > 0 && inPipe[p] <= 0) {
                        more |= shorten(net.ends[p], net.starts[p], net.longs[p]);
                    }
                }
            }
        }

        private boolean shorten(int near, int far, int length) {
            if (distances[far] + length >= distances[near]) {
                return false;
            }
            distances[near] = distances[far] + length;
            return true;
        }

        /** Puts the pipes of the first of the shortest ways into way; answers how many, 0 if there is no way. */
        private int findWay(int target) {
            int at = PLANT;
            int steps = 0;
            while (at != target && steps < MOST_NODES) {
                int p = nextPipe(at);
                if (p == NONE) {
                    return 0;
                }
                way[steps] = p;
                steps++;
                at = net.starts[p] == at ? net.ends[p] : net.starts[p];
            }
            return at == target ? steps : 0;
        }

        /** The first pipe by which a shortest way goes on from a node. */
        private int nextPipe(int at) {
            for (int p = 0; distances[at] < FAR && p < net.pipes; p++) {
                boolean fromA = net.starts[p] == at && inPipe[p] >= 0;
                boolean fromB = net.ends[p] == at && inPipe[p] <= 0;
                int far = fromA ? net.ends[p] : net.starts[p];
                if (room[p] > 0 && (fromA || fromB) && distances[at] == distances[far] + net.longs[p]) {
                    return p;
                }
            }
            return NONE;
        }

        private void takeWay(int house, int steps) {
            int units = wanted[house] - got[house];
            for (int i = 0; i < steps; i++) {
                units = Math.min(units, room[way[i]]);
            }
            int at = PLANT;
            for (int i = 0; i < steps; i++) {
                int p = way[i];
                boolean fromA = net.starts[p] == at;
                inPipe[p] += fromA ? units : -units;
                room[p] -= units;
                shares[p * MOST_HOUSES + house] += units;
                at = fromA ? net.ends[p] : net.starts[p];
            }
            got[house] += units;
        }
    }

    /** The tape, its tokens and the grammar of rules. */
    private static final class Reader {
        private static final String WORDS =
            "send drop price lost when or and air hour store back size rank cold ";
        private static final String SIGNS = "+-*/()<>=;";
        private static final int DEEPEST = 8;

        int bytes = 0;
        int faultAt = NONE;
        private final char[] tape = new char[MOST_BYTES];
        private final int[] tokens = new int[MOST_BYTES + 1];
        private final int[] spots = new int[MOST_BYTES + 1];
        private final Rules target;
        private final Rules draft = new Rules();
        private int at = 0;

        Reader(Rules target) {
            this.target = target;
        }

        void addBytes(int number) {
            for (int shift = 24; shift >= 0; shift -= 8) {
                if (bytes < MOST_BYTES) {
                    tape[bytes] = (char) (number >> shift & 255);
                    bytes++;
                }
            }
        }

        boolean readTape() {
            findTokens();
            bytes = 0;
            faultAt = NONE;
            at = 0;
            draft.clear();
            if (!isAt(Rules.END)) {
                readRule();
            }
            for (int i = 0; i < MOST_RULES && isSign(';'); i++) {
                goOn();
                readRule();
            }
            if (!isAt(Rules.END)) {
                fail();
                return false;
            }
            target.copyFrom(draft);
            return true;
        }

        private void findTokens() {
            int many = 0;
            for (int i = 0; i < bytes; i++) {
                if (!isBlank(i) && !isWithinRun(i)) {
                    tokens[many] = tokenAt(i);
                    spots[many] = i;
                    many++;
                }
            }
            tokens[many] = Rules.END;
            spots[many] = bytes;
        }

        private int tokenAt(int i) {
            if (isLetter(i)) {
                return wordToken(i, afterRun(i));
            }
            if (isDigit(i)) {
                return numberToken(i, afterRun(i));
            }
            return SIGNS.indexOf(tape[i]) >= 0 ? Rules.SIGN + tape[i] : Rules.BAD;
        }

        /** Whether this byte goes on with the word or the number of the one ahead of it. */
        private boolean isWithinRun(int i) {
            return i > 0 && (isLetter(i) && isLetter(i - 1) || isDigit(i) && isDigit(i - 1));
        }

        private int afterRun(int start) {
            int i = start + 1;
            while (i < bytes && isWithinRun(i)) {
                i++;
            }
            return i;
        }

        private boolean isBlank(int i) {
            return tape[i] == 32 || tape[i] == 10;
        }

        private boolean isLetter(int i) {
            return tape[i] >= 'a' && tape[i] <= 'z';
        }

        private boolean isDigit(int i) {
            return tape[i] >= '0' && tape[i] <= '9';
        }

        private int wordToken(int start, int stop) {
            int number = 0;
            int k = start;
            boolean same = true;
            for (int i = 0; i < WORDS.length(); i++) {
                char c = WORDS.charAt(i);
                if (c != ' ') {
                    same = same && k < stop && tape[k] == c;
                    k++;
                } else if (same && k == stop) {
                    return Rules.WORD + number;
                } else {
                    number++;
                    k = start;
                    same = true;
                }
            }
            return Rules.BAD;
        }

        private int numberToken(int start, int stop) {
            int value = 0;
            for (int i = start; i < stop; i++) {
                value = Math.min(Rules.GREATEST + 1, value * 10 + tape[i] - '0');
            }
            return value <= Rules.GREATEST ? value : Rules.BAD;
        }

        private void fail() {
            if (faultAt == NONE) {
                faultAt = spots[at];
            }
        }

        private boolean isAt(int token) {
            return faultAt == NONE && tokens[at] == token;
        }

        private boolean isSign(char sign) {
            return faultAt == NONE && tokens[at] == Rules.SIGN + sign;
        }

        /** The last token is never gone beyond. */
        private void goOn() {
            if (tokens[at] != Rules.END && at < MOST_BYTES) {
                at++;
            }
        }

        private void readRule() {
            int kind = tokens[at] - Rules.WORD;
            if (faultAt != NONE || kind < Rules.SEND || kind > Rules.LOSE || draft.rules >= MOST_RULES) {
                fail();
                return;
            }
            goOn();
            readSum(0);
            draft.endSum(kind);
            if (isAt(Rules.WHEN)) {
                goOn();
                readWhen();
            }
            draft.endRule();
        }

        private void readWhen() {
            boolean waits = false;
            readCondition();
            for (int i = 0; i < MOST_BYTES && (isAt(Rules.OR) || isAt(Rules.AND)); i++) {
                boolean both = isAt(Rules.AND);
                // An 'or' is put behind all that its right side joins by 'and'.
                if (!both && waits) {
                    draft.put(Rules.OR);
                }
                waits |= !both;
                goOn();
                readCondition();
                if (both) {
                    draft.put(Rules.AND);
                }
            }
            if (waits) {
                draft.put(Rules.OR);
            }
        }

        private void readCondition() {
            readSum(0);
            int sign = tokens[at];
            if (!isSign('<') && !isSign('>') && !isSign('=')) {
                fail();
                return;
            }
            goOn();
            readSum(0);
            draft.put(sign);
        }

        /** A + or - is put behind all that its right side joins by * and /. */
        private void readSum(int depth) {
            int waits = NONE;
            readFactor(depth);
            for (int i = 0; i < MOST_BYTES && (isSign('+') || isSign('-') || isSign('*') || isSign('/')); i++) {
                int sign = tokens[at];
                boolean binds = isSign('*') || isSign('/');
                if (!binds && waits != NONE) {
                    draft.put(waits);
                }
                waits = binds ? waits : sign;
                goOn();
                readFactor(depth);
                if (binds) {
                    draft.put(sign);
                }
            }
            if (waits != NONE) {
                draft.put(waits);
            }
        }

        private void readFactor(int depth) {
            int token = tokens[at];
            if (faultAt == NONE && (Rules.isNumber(token) || Rules.isName(token))) {
                draft.put(token);
                goOn();
            } else if (isSign('(') && depth < DEEPEST) {
                goOn();
                readSum(depth + 1);
                if (isSign(')')) {
                    goOn();
                } else {
                    fail();
                }
            } else {
                fail();
            }
        }
    }

    /** Rules as codes, an operator behind its two sides: numbers 0 .. 9999, words, signs. */
    private static final class Rules {
        static final int GREATEST = 9999;
        static final int WORD = 10000;
        static final int SEND = 0;
        static final int DROP = 1;
        static final int PRICE = 2;
        static final int LOSE = 3;
        static final int WHEN = WORD + 4;
        static final int OR = WORD + 5;
        static final int AND = WORD + 6;
        static final int FIRST_NAME = WORD + 7;
        static final int NAMES = 7;
        static final int SIGN = 20000;
        static final int END = 30000;
        static final int BAD = 30001;
        /** Nine depths with two open sides each, three more in conditions, and one: 22 at most. */
        private static final int MOST_OPEN = 32;

        int rules = 0;
        /** What the names air, hour, store, back, size, rank, cold tell. */
        final long[] named = new long[NAMES];
        private int codes = 0;
        private final int[] code = new int[MOST_BYTES];
        private final int[] kinds = new int[MOST_RULES];
        private final int[] sumEnds = new int[MOST_RULES];
        private final int[] ruleEnds = new int[MOST_RULES];
        private final long[] open = new long[MOST_OPEN];

        static boolean isNumber(int token) {
            return token >= 0 && token <= GREATEST;
        }

        static boolean isName(int token) {
            return token >= FIRST_NAME && token < FIRST_NAME + NAMES;
        }

        void clear() {
            rules = 0;
            codes = 0;
        }

        void copyFrom(Rules other) {
            rules = other.rules;
            codes = other.codes;
            System.arraycopy(other.code, 0, code, 0, MOST_BYTES);
            System.arraycopy(other.kinds, 0, kinds, 0, MOST_RULES);
            System.arraycopy(other.sumEnds, 0, sumEnds, 0, MOST_RULES);
            System.arraycopy(other.ruleEnds, 0, ruleEnds, 0, MOST_RULES);
        }

        void put(int token) {
            if (codes < MOST_BYTES) {
                code[codes] = token;
                codes++;
            }
        }

        void endSum(int kind) {
            if (rules < MOST_RULES) {
                kinds[rules] = kind;
                sumEnds[rules] = codes;
            }
        }

        void endRule() {
            if (rules < MOST_RULES) {
                ruleEnds[rules] = codes;
                rules++;
            }
        }

        int tell(int kind, int least, int most, int without) {
            for (int r = 0; r < rules; r++) {
                if (kinds[r] == kind && holds(r)) {
                    long value = work(r == 0 ? 0 : ruleEnds[r - 1], sumEnds[r]);
                    return (int) Math.max(least, Math.min(most, value));
                }
            }
            return without;
        }

        private boolean holds(int rule) {
            return sumEnds[rule] == ruleEnds[rule] || work(sumEnds[rule], ruleEnds[rule]) != 0;
        }

        private long work(int from, int to) {
            int top = 0;
            for (int i = from; i < to; i++) {
                int token = code[i];
                if (isNumber(token) || isName(token)) {
                    if (top < MOST_OPEN) {
                        open[top] = isName(token) ? named[token - FIRST_NAME] : token;
                        top++;
                    }
                } else if (top >= 2) {
                    top--;
                    open[top - 1] = join(token, open[top - 1], open[top]);
                }
            }
            return open[0];
        }

        private static long join(int token, long a, long b) {
            switch (token) {
                case SIGN + '+':
                    return a + b;
                case SIGN + '-':
                    return a - b;
                case SIGN + '*':
                    return a * b;
                case SIGN + '/':
                    return b == 0 ? 0 : a / b;
                case SIGN + '<':
                    return a < b ? 1 : 0;
                case SIGN + '>':
                    return a > b ? 1 : 0;
                case SIGN + '=':
                    return a == b ? 1 : 0;
                case AND:
                    return a & b;
                default:
                    return a | b;
            }
        }
    }

    /** A row as it was when it was taken, one number an hour from then on. */
    private static final class Series {
        private final int[] numbers = new int[MOST_NUMBERS];
        private int many = 0;
        private int from = 0;

        int take(Places places, int place, int hour) {
            many = places.lengths[place];
            from = hour;
            for (int i = 0; i < many; i++) {
                numbers[i] = (int) places.numberAt(place, i);
            }
            return many;
        }

        /** Behind the last number there is none: 0. */
        int endingAt(int hour) {
            int i = hour - from;
            return i >= 0 && i < many ? numbers[i] : 0;
        }

        /** The last number stays. */
        int lastingAt(int hour) {
            return many == 0 ? 0 : endingAt(Math.min(hour, from + many - 1));
        }
    }

    /** The mill and the boilers: what they can give in an hour, and for how much. */
    private static final class Works {
        int boilers = 0;
        int millPrice = 0;
        final Series offers = new Series();
        /** What the latest raise() took of the mill and of all boilers, and its cost. */
        long milled = 0;
        long boiled = 0;
        long cost = 0;
        private final int[] mosts = new int[MOST_BOILERS];
        private final int[] costs = new int[MOST_BOILERS];
        private final int[] order = new int[MOST_BOILERS];

        int addBoiler(int most, int price) {
            mosts[boilers] = most;
            costs[boilers] = price;
            int spot = boilers;
            while (spot > 0 && costs[order[spot - 1]] > price) {
                order[spot] = order[spot - 1];
                spot--;
            }
            order[spot] = boilers;
            return boilers++;
        }

        /** Takes what is needed, as far as it can be had; answers how much that is. */
        long raise(long needed, int hour) {
            milled = Math.min(needed, offers.endingAt(hour));
            boiled = 0;
            cost = milled * millPrice / 1000;
            for (int i = 0; i < boilers; i++) {
                int b = order[i];
                long part = Math.min(needed - milled - boiled, mosts[b]);
                boiled += part;
                cost += part * costs[b] / 1000;
            }
            return milled + boiled;
        }
    }

    /** The store and its plan: levels are counted in steps while they are sought. */
    private static final class Store {
        private static final int LEVELS = MOST_STEPS + 1;
        private static final long NEVER = 1000000000000L;

        int holds = 0;
        int step = 1;
        boolean isLive = false;
        int hours = 0;
        final int[] levels = new int[MOST_PLANNED];
        private int from = 0;
        private final Works works;
        /** What an hour costs in which the level changes by i - MOST_STEPS steps. */
        private final long[] prices = new long[2 * MOST_STEPS + 1];
        private final long[] best = new long[(MOST_PLANNED + 1) * LEVELS];
        private final int[] choices = new int[MOST_PLANNED * LEVELS];

        Store(Works works) {
            this.works = works;
        }

        /** The level that is planned for the end of an hour; without a plan what is there. */
        int levelFor(int hour, int stored) {
            int k = hour - from;
            return isLive && k >= 0 && k < hours ? levels[k] : stored;
        }

        long seek(Places places, int place, State now) {
            int many = Math.min(places.lengths[place], MOST_PLANNED);
            int steps = step <= 0 ? 0 : Math.min(holds / step, MOST_STEPS);
            for (int i = 0; i <= steps; i++) {
                best[many * LEVELS + i] = 0;
            }
            for (int k = many - 1; k >= 0; k--) {
                priceChanges(places.numberAt(place, k), now.hour + k, steps);
                for (int i = 0; i <= steps; i++) {
                    choose(k, i, steps);
                }
            }
            int start = step <= 0 ? 0 : Math.min(now.stored / step, steps);
            isLive = best[start] < NEVER;
            if (!isLive) {
                return NONE;
            }
            keep(many, start);
            from = now.hour;
            return best[start];
        }

        private void priceChanges(long need, int hour, int steps) {
            for (int change = -steps; change <= steps; change++) {
                long needed = need + (long) change * step;
                boolean can = needed >= 0 && works.raise(needed, hour) == needed;
                prices[change + MOST_STEPS] = can ? works.cost : NEVER;
            }
        }

        /** The least cost from hour k on, and the least level that has it; levels are tried from below. */
        private void choose(int k, int level, int steps) {
            long least = NEVER;
            int choice = 0;
            for (int next = 0; next <= steps; next++) {
                long total = prices[next - level + MOST_STEPS] + best[(k + 1) * LEVELS + next];
                if (total < least) {
                    least = total;
                    choice = next;
                }
            }
            best[k * LEVELS + level] = least;
            choices[k * LEVELS + level] = choice;
        }

        private void keep(int many, int start) {
            int level = start;
            for (int k = 0; k < many; k++) {
                level = choices[k * LEVELS + level];
                levels[k] = level * step;
            }
            hours = many;
        }
    }

    /** All that changes as hours go by, so that a copy can run ahead. */
    private static final class State {
        int hour = 0;
        int stored = 0;
        int back = NO_BACK;
        int sendWas = NONE;
        final int[] units = new int[2 * MOST_PIPES * LONGEST];
        final int[] lastFlow = new int[MOST_PIPES];
        final int[] lastUnits = new int[MOST_HOUSES];
        final long[] lastWarm = new long[MOST_HOUSES];
        final int[] coldHours = new int[MOST_HOUSES];
        final long[] used = new long[MOST_HOUSES];
        final long[] cold = new long[MOST_HOUSES];
        final long[] billed = new long[MOST_HOUSES];
        final long[] billedLost = new long[MOST_HOUSES];
        final long[] totals = new long[TOTALS];

        void fillPipe(int pipe) {
            int out = firstUnit(pipe, OUT);
            int back = firstUnit(pipe, BACK);
            for (int k = 0; k < LONGEST; k++) {
                units[out + k] = WARM_OUT;
                units[back + k] = WARM_BACK;
            }
        }

        void copyFrom(State other) {
            hour = other.hour;
            stored = other.stored;
            back = other.back;
            sendWas = other.sendWas;
            System.arraycopy(other.units, 0, units, 0, units.length);
            System.arraycopy(other.lastFlow, 0, lastFlow, 0, MOST_PIPES);
            System.arraycopy(other.lastUnits, 0, lastUnits, 0, MOST_HOUSES);
            System.arraycopy(other.lastWarm, 0, lastWarm, 0, MOST_HOUSES);
            System.arraycopy(other.coldHours, 0, coldHours, 0, MOST_HOUSES);
            System.arraycopy(other.used, 0, used, 0, MOST_HOUSES);
            System.arraycopy(other.cold, 0, cold, 0, MOST_HOUSES);
            System.arraycopy(other.billed, 0, billed, 0, MOST_HOUSES);
            System.arraycopy(other.billedLost, 0, billedLost, 0, MOST_HOUSES);
            System.arraycopy(other.totals, 0, totals, 0, TOTALS);
        }

        /** Takes the units that stand ahead out of a pipe, moves the others up; answers their warm together. */
        long takeOut(int first, int length, int many, boolean rising) {
            int ahead = rising ? first + length - many : first;
            long warm = 0;
            for (int i = 0; i < many; i++) {
                warm += units[ahead + i];
            }
            if (rising) {
                System.arraycopy(units, first, units, first + many, length - many);
            } else {
                System.arraycopy(units, first + many, units, first, length - many);
            }
            return warm;
        }
    }

    /** What happens in one hour. */
    private static final class Hour {
        int ground = 8;
        int least = 25;
        private final Net net;
        private final Flows flows;
        private final Rules laws;
        private final Series airs;
        private final Works works;
        private final Store depot;
        /** At each node: units that come, warm of the units that go out and of those that come back. */
        private final int[] unitsAt = new int[MOST_NODES];
        private final long[] warmOut = new long[MOST_NODES];
        private final long[] warmBack = new long[MOST_NODES];
        /** How many of a node's units have been given away. */
        private final int[] given = new int[MOST_NODES];
        private final int[] prices = new int[MOST_HOUSES];
        private final int[] lossPrices = new int[MOST_HOUSES];

        Hour(Net net, Flows flows, Rules laws, Series airs, Works works, Store depot) {
            this.net = net;
            this.flows = flows;
            this.laws = laws;
            this.airs = airs;
            this.works = works;
            this.depot = depot;
        }

        void pass(State s) {
            settleFlows(s);
            int send = laws.tell(Rules.SEND, 40, 120, 70);
            setPrices(s);
            moveOut(s);
            heat(s, send);
            fillPipes(s, OUT);
            // Houses come behind the pipes of their node: they get on from what fillPipes() has given.
            int air = airs.lastingAt(s.hour);
            for (int h = 0; h < net.houses; h++) {
                supply(s, h, 100L * flows.needOf(h, air));
            }
            fillPipes(s, BACK);
            for (int p = 0; p < net.pipes; p++) {
                long lost = cool(s, p, OUT) + cool(s, p, BACK);
                s.totals[LOST] += lost;
                billLost(s, p, lost);
            }
            s.hour++;
        }

        /** Flows as they are by the rules, the air and the open pipes of this hour. */
        void settleFlows(State s) {
            int air = airs.lastingAt(s.hour);
            laws.named[0] = air;
            laws.named[1] = s.hour % 24;
            laws.named[2] = s.stored;
            laws.named[3] = s.back;
            laws.named[4] = 0;
            laws.named[5] = 0;
            laws.named[6] = 0;
            flows.settle(air, laws.tell(Rules.DROP, 5, 60, 30));
        }

        private void setPrices(State s) {
            for (int h = 0; h < net.houses; h++) {
                laws.named[4] = net.sizes[h];
                laws.named[5] = net.ranks[h];
                laws.named[6] = s.coldHours[h];
                prices[h] = laws.tell(Rules.PRICE, 0, MOST_PRICE, 10);
                lossPrices[h] = laws.tell(Rules.LOSE, 0, MOST_PRICE, 0);
            }
        }

        /** The node from which units come into a pipe (end 0), or to which they go (end 1). */
        private int nodeOf(int pipe, int end) {
            return net.nodeAt(pipe, flows.inPipe[pipe] > 0 ? end : 1 - end);
        }

        /** Whether the units of a pipe, out or back, move from a to b. */
        private boolean isRising(int pipe, int way) {
            return flows.inPipe[pipe] > 0 == (way == OUT);
        }

        private void moveOut(State s) {
            for (int n = 0; n < MOST_NODES; n++) {
                unitsAt[n] = 0;
                warmOut[n] = 0;
                warmBack[n] = 0;
            }
            for (int p = 0; p < net.pipes; p++) {
                int many = Math.abs(flows.inPipe[p]);
                s.lastFlow[p] = flows.inPipe[p];
                if (many == 0) {
                    continue;
                }
                int near = nodeOf(p, 0);
                int far = nodeOf(p, 1);
                warmOut[far] += s.takeOut(firstUnit(p, OUT), net.longs[p], many, isRising(p, OUT));
                warmBack[near] += s.takeOut(firstUnit(p, BACK), net.longs[p], many, isRising(p, BACK));
                unitsAt[far] += many;
                if (near == PLANT) {
                    unitsAt[PLANT] += many;
                }
            }
        }

        private void heat(State s, int send) {
            long back = warmBack[PLANT];
            int units = unitsAt[PLANT];
            long warm = back + make(s, Math.max(0L, send * 100L * units - back));
            warmOut[PLANT] = warm;
            s.back = units == 0 ? NO_BACK : (int) (back / (100L * units));
            s.sendWas = units == 0 ? NONE : (int) (warm / units);
        }

        /** Makes what is needed at the plant, by the store too; answers what the water gets of it. */
        private long make(State s, long needed) {
            long into = depot.levelFor(s.hour, s.stored) - s.stored;
            into = Math.max(into, -needed);
            long made = works.raise(needed + into, s.hour);
            long lacks = needed + into - made;
            long put = into > 0 ? Math.max(0L, into - lacks) : into;
            s.stored += (int) put;
            s.totals[BOILED] += works.boiled;
            s.totals[MILLED] += works.milled;
            s.totals[COSTS] += works.cost;
            return made - put;
        }

        /** Of all that a node has, the warm of so many units behind those that have been given. */
        private long giveOf(int node, long warm, int many) {
            int units = unitsAt[node];
            if (units == 0) {
                return 0;
            }
            long before = warm * given[node] / units;
            given[node] += many;
            return warm * given[node] / units - before;
        }

        private void fillPipes(State s, int way) {
            Arrays.fill(given, 0);
            for (int p = 0; p < net.pipes; p++) {
                int many = Math.abs(flows.inPipe[p]);
                if (many > 0) {
                    fillPipe(s, p, way, many);
                }
            }
        }

        /** Puts new units behind those that are in a pipe, the first one ahead. */
        private void fillPipe(State s, int pipe, int way, int many) {
            int node = nodeOf(pipe, way == OUT ? 0 : 1);
            long warm = way == OUT ? warmOut[node] : warmBack[node];
            boolean rising = isRising(pipe, way);
            int first = firstUnit(pipe, way) + (rising ? many - 1 : net.longs[pipe] - many);
            for (int i = 0; i < many; i++) {
                s.units[rising ? first - i : first + i] = (int) giveOf(node, warm, 1);
            }
        }

        private void supply(State s, int house, long needed) {
            int node = net.homes[house];
            int units = flows.got[house];
            long warm = giveOf(node, warmOut[node], units);
            long spare = Math.max(0L, warm - 100L * least * units);
            long used = Math.min(needed, spare);
            long lacks = needed - used;
            warmBack[node] += warm - used;
            s.lastUnits[house] = units;
            s.lastWarm[house] = warm;
            s.used[house] += used;
            s.cold[house] += lacks;
            s.coldHours[house] += lacks > 0 ? 1 : 0;
            s.billed[house] += prices[house] * used / 1000;
            s.totals[USED] += used;
            s.totals[COLD] += lacks;
        }

        private long cool(State s, int pipe, int way) {
            int loss = net.losses[pipe];
            int[] units = s.units;
            int first = firstUnit(pipe, way);
            int behind = loss == 0 ? first : first + net.longs[pipe];
            int floor = 100 * ground;
            long lost = 0;
            for (int i = first; i < behind; i++) {
                int above = units[i] - floor;
                if (above > 0) {
                    int part = above * loss / 1000;
                    units[i] -= part;
                    lost += part;
                }
            }
            return lost;
        }

        private void billLost(State s, int pipe, long lost) {
            int all = Math.abs(flows.inPipe[pipe]);
            if (all == 0) {
                return;
            }
            for (int h = 0; h < net.houses; h++) {
                long part = lost * flows.shares[pipe * MOST_HOUSES + h] / all;
                s.billedLost[h] += part * lossPrices[h] / 1000;
            }
        }
    }

    /** Four rows of numbers, or nothing (a length of NONE). */
    private static final class Places {
        final int[] lengths = new int[MOST_PLACES];
        final int[] widths = new int[MOST_PLACES];
        private final long[] numbers = new long[MOST_PLACES * MOST_NUMBERS];

        Places() {
            Arrays.fill(lengths, NONE);
        }

        int refusal(int place) {
            if (!isPlace(place)) {
                return WRONG;
            }
            return lengths[place] == NONE ? NOTHING : 0;
        }

        int countRows() {
            int many = 0;
            for (int i = 0; i < MOST_PLACES; i++) {
                many += lengths[i] == NONE ? 0 : 1;
            }
            return many;
        }

        void makeRow(int place, int width, int n) {
            lengths[place] = n;
            widths[place] = width;
            for (int i = 0; i < n; i++) {
                numbers[place * MOST_NUMBERS + i] = 0;
            }
        }

        long numberAt(int place, int i) {
            return numbers[place * MOST_NUMBERS + i];
        }

        void setNumber(int place, int i, long v) {
            numbers[place * MOST_NUMBERS + i] = cutTo(widths[place], v);
        }

        private static long cutTo(int width, long v) {
            switch (width) {
                case 0:
                    return (byte) v;
                case 1:
                    return (short) v;
                case 2:
                    return (int) v;
                default:
                    return v;
            }
        }

        void copyNumbers(int place, int i, int to, int k, int n) {
            System.arraycopy(numbers, place * MOST_NUMBERS + i, numbers, to * MOST_NUMBERS + k, n);
        }

        boolean holdsWithin(int place, long least, long most) {
            for (int i = 0; i < lengths[place]; i++) {
                if (!isWithin(numberAt(place, i), least, most)) {
                    return false;
                }
            }
            return true;
        }
    }

    /** What meters read, as facts; an end of a pipe has the number that Net tells. */
    private static final class Meters {
        int facts = 0;
        /** The span of the latest findSpan(). */
        int least = 0;
        int greatest = 0;
        private final int[] ends = new int[MOST_FACTS];
        private final int[] hours = new int[MOST_FACTS];
        private final int[] reads = new int[MOST_FACTS];

        int addFact(int end, int hour, int units) {
            ends[facts] = end;
            hours[facts] = hour;
            reads[facts] = units;
            return facts++;
        }

        /** Narrows the span by all hours that both ends tell; answers whether there is such an hour. */
        boolean findSpan(int pipe, int n, int drift) {
            least = 0;
            greatest = 1000;
            boolean told = false;
            for (int i = 0; i < n; i++) {
                if (ends[i] == 2 * pipe && latest(2 * pipe, hours[i], n) == i) {
                    int other = latest(2 * pipe + 1, hours[i], n);
                    if (other != NONE) {
                        told = true;
                        narrow(Math.abs(reads[i] - reads[other]), 2 * drift);
                    }
                }
            }
            return told;
        }

        private int latest(int end, int hour, int n) {
            for (int i = n - 1; i >= 0; i--) {
                if (ends[i] == end && hours[i] == hour) {
                    return i;
                }
            }
            return NONE;
        }

        private void narrow(int difference, int either) {
            least = Math.max(least, difference - either);
            greatest = Math.min(greatest, difference + either);
        }
    }
}
