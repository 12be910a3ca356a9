import java.util.Arrays;

/** Drip lines: pipes laid along streets to taps at least cost. The document is ../shared/DOC.md. */
public final class DripLines {
    public static final int NONE = -1, NO = -1000000;

    private static final int MAX_PLACES = 10, MAX_STREETS = 16, MAX_AMOUNT = 100;
    private static final int MAX_UNDO = 10, MAX_TRACE = 50;
    private static final int MAPS = 5, MAX_MAP_SIZE = 20, BYTES = 0, INTS = 1, LONGS = 2;
    private static final int STREET_NUMBERS = 3, FORGE_LIMIT = 100, FORGE_ROW = 6;

    private static final int PLACE = 0, TAP = 1, WISH = 2, WELL = 3, GATE = 4, KINDS = 5;

    private static final int DONE = 0, WRONG_NUMBER = 1, NO_ROOM = 2, NOT_SO = 3;
    private static final int NOTHING = 10, OTHER_SORT = 11, OUTSIDE = 12;
    private static final int SIZE_BELOW_0 = 13, DOES_NOT_FIT = 14, DIVIDED_BY_0 = 15;

    private static final int A_TREE = 0, A_RING = 1, APART = 2, TAP_LACKS = 3;

    // Above every sum of a way, a tree or a street's room, and far below what an int holds.
    private static final int FAR = 100000000;

    private final Net net;
    private final Ways ways;
    private final Trees trees;
    private final Walls raised;
    private final Maps maps;
    private int latestStatus;

    public DripLines() {
        Net empty = new Net();
        net = empty;
        ways = new Ways(empty);
        trees = new Trees(empty);
        raised = new Walls(empty);
        maps = new Maps();
        latestStatus = DONE;
    }

    public int place(int kind, int worth) {
        if (kind < PLACE || kind >= KINDS || hasWorth(kind) && !isAmount(worth)) {
            return refused(WRONG_NUMBER);
        }
        if (net.placeCount >= MAX_PLACES) {
            return refused(NO_ROOM);
        }
        if (kind == WELL && net.well != NONE) {
            return refused(NOT_SO);
        }
        return done(net.addPlace(kind, hasWorth(kind) ? worth : 0));
    }

    public int street(int a, int b, int cost) {
        if (!net.mayJoin(a, b, cost)) {
            return refused(WRONG_NUMBER);
        }
        if (net.streetCount >= MAX_STREETS) {
            return refused(NO_ROOM);
        }
        return done(net.addStreet(a, b, cost));
    }

    public int drop(int street) {
        if (!net.hasStreet(street)) {
            return refused(WRONG_NUMBER);
        }
        if (!net.isThere(street)) {
            return refused(NOT_SO);
        }
        net.dropStreet(street);
        return done(1);
    }

    public int undo() {
        if (net.logged == 0) {
            return refused(NOT_SO);
        }
        net.takeBack();
        return done(1);
    }

    public int told(int place, int what) {
        Place asked = net.placeAt(place);
        if (asked == null) {
            return NONE;
        }
        switch (what) {
            case 0: return asked.kind();
            case 1: return asked.worth;
            case 2: return net.streetsAt(place);
            default: return NONE;
        }
    }

    public int streetTold(int street, int what) {
        if (!net.hasStreet(street)) {
            return NONE;
        }
        switch (what) {
            case 0: return net.first[street];
            case 1: return net.second[street];
            case 2: return net.cost[street];
            case 3: return bitAt(net.there, street);
            case 4: return bitAt(net.hand, street);
            default: return NONE;
        }
    }

    public int count(int what) {
        switch (what) {
            case 0: return net.placeCount;
            case 1: return net.streetCount;
            case 2: return Integer.bitCount(net.there);
            case 3: return Integer.bitCount(net.taps);
            case 4: return Integer.bitCount(net.hand);
            case 5: return net.trace.size;
            case 6: return net.logged;
            default: return NONE;
        }
    }

    public int apart(int a, int b) {
        return net.hasPlace(a) && net.hasPlace(b) ? ways.sumOf(a, b) : NO;
    }

    public int way(int a, int b, int i) {
        return net.hasPlace(a) && net.hasPlace(b) ? ways.placeOn(a, b, i) : NONE;
    }

    public int span() {
        return ways.spanOfTaps();
    }

    public int least() {
        return trees.leastTag();
    }

    public int many() {
        return trees.howManyBest();
    }

    public int best(int k, int i) {
        return trees.streetOfBest(k, i);
    }

    public int must(int street) {
        return net.hasStreet(street) ? trees.useInBest(street) : NONE;
    }

    public int most(int sum) {
        return trees.mostWorth(sum);
    }

    public int lay(int street) {
        if (!net.hasStreet(street) || !net.isThere(street)) {
            return refused(WRONG_NUMBER);
        }
        net.hand ^= 1 << street;
        return done(bitAt(net.hand, street));
    }

    public int clear() {
        int had = Integer.bitCount(net.hand);
        net.hand = 0;
        return done(had);
    }

    public int why() {
        return trees.flawOf(net.hand);
    }

    public int tag() {
        return trees.flawOf(net.hand) == A_TREE ? trees.tagOf(net.hand) : NO;
    }

    public int trim() {
        if (trees.flawOf(net.hand) != A_TREE) {
            return refused(NOT_SO);
        }
        int had = Integer.bitCount(net.hand);
        net.hand = trees.trimmed(net.hand);
        return done(had - Integer.bitCount(net.hand));
    }

    public int better() {
        if (trees.flawOf(net.hand) != A_TREE) {
            return refused(NOT_SO);
        }
        int before = trees.tagOf(net.hand);
        net.hand = trees.swapped(net.hand);
        return done(before - trees.tagOf(net.hand));
    }

    public int walls() {
        return raised.howMany();
    }

    public int wall(int i, int what) {
        return raised.toldOf(i, what);
    }

    public int bound() {
        return raised.sumOfShares();
    }

    public int act(int place, int act, int x) {
        Place actor = net.placeAt(place);
        if (actor == null || act < 0 || act > 3) {
            return refused(WRONG_NUMBER);
        }
        actor.streets = net.streetsAt(place);
        net.trace.size = 0;
        switch (act) {
            case 0: return done(actor.join(x));
            case 1: return done(actor.cost(x));
            case 2: return done(actor.ask(x));
            default: return done(actor.tell(x));
        }
    }

    public int trace(int i) {
        return net.trace.bodyAt(i);
    }

    public int map(int map, int sort, int n) {
        if (!isMap(map) || sort < NONE || sort > LONGS) {
            return refused(WRONG_NUMBER);
        }
        if (sort != NONE && (n < 0 || n > MAX_MAP_SIZE)) {
            return refused(WRONG_NUMBER);
        }
        maps.make(map, sort, sort == NONE ? 0 : n);
        return done(1);
    }

    public int cell(int map, int i, int v) {
        if (!isMap(map)) {
            return refused(WRONG_NUMBER);
        }
        int refusal = maps.refusal(map, maps.sort[map], i, 1);
        if (refusal != DONE) {
            return refused(refusal);
        }
        maps.cells[map][i] = maps.sort[map] == BYTES ? (byte) v : v;
        return done(1);
    }

    public int fromMap(int map, int sort, int i) {
        if (!isMap(map) || sort < BYTES || sort > LONGS) {
            return refused(WRONG_NUMBER);
        }
        if (net.streetCount >= MAX_STREETS) {
            return refused(NO_ROOM);
        }
        int refusal = maps.refusal(map, sort, i, STREET_NUMBERS);
        if (refusal != DONE) {
            return refused(refusal);
        }
        int[] numbers = maps.cells[map];
        if (!net.mayJoin(numbers[i], numbers[i + 1], numbers[i + 2])) {
            return refused(NOT_SO);
        }
        return done(net.addStreet(numbers[i], numbers[i + 1], numbers[i + 2]));
    }

    public int forge(int what, int n, int k) {
        if (n < -FORGE_LIMIT || n > FORGE_LIMIT || k < -FORGE_LIMIT || k > FORGE_LIMIT) {
            return refused(WRONG_NUMBER);
        }
        switch (what) {
            case 0: return takePlaceForKind(Math.floorMod(k, MAX_PLACES), Math.floorMod(n, KINDS));
            case 1: return n < 0 ? refused(SIZE_BELOW_0) : done(n);
            case 2: return readInt(Math.floorMod(k, MAPS), n);
            case 3: return copyBytes(Math.floorMod(k, MAPS), n);
            case 4: return putAmongTaps(Math.floorMod(k, MAX_PLACES));
            case 5: return n == 0 ? refused(DIVIDED_BY_0) : done(1000 / n);
            case 6: return Math.floorMod(n, 2) == 0 ? refused(NOTHING) : done(1);
            default: return refused(WRONG_NUMBER);
        }
    }

    public int status() {
        return latestStatus;
    }

    private int takePlaceForKind(int place, int kind) {
        Place taken = net.placeAt(place);
        if (taken == null) {
            return refused(NOTHING);
        }
        return isOfKind(taken, kind) ? done(taken.kind()) : refused(OTHER_SORT);
    }

    private int readInt(int map, int i) {
        int refusal = maps.refusal(map, INTS, i, 1);
        return refusal == DONE ? done(maps.cells[map][i]) : refused(refusal);
    }

    private int copyBytes(int map, int n) {
        int refusal = maps.refusal(map, BYTES, 1, n);
        if (refusal != DONE) {
            return refused(refusal);
        }
        if (n + n > FORGE_ROW) {
            return refused(OUTSIDE);
        }
        int sum = 0;
        for (int i = 1; i <= n; i++) {
            sum += maps.cells[map][i];
        }
        return done(sum);
    }

    private int putAmongTaps(int place) {
        Place put = net.placeAt(place);
        if (put == null) {
            return done(0);
        }
        return put instanceof Tap ? done(put.kind()) : refused(DOES_NOT_FIT);
    }

    private int done(int answer) {
        latestStatus = DONE;
        return answer;
    }

    private int refused(int reason) {
        latestStatus = reason;
        return NONE;
    }

    private static boolean isOfKind(Place place, int kind) {
        switch (kind) {
            case TAP: return place instanceof Tap;
            case WISH: return place instanceof Wish;
            case WELL: return place instanceof Well;
            case GATE: return place instanceof Gate;
            default: return true;
        }
    }

    private static boolean isMap(int map) {
        return map >= 0 && map < MAPS;
    }

    private static boolean hasWorth(int kind) {
        return kind == WISH || kind == GATE;
    }

    private static boolean isAmount(int number) {
        return number >= 1 && number <= MAX_AMOUNT;
    }

    private static int bitAt(int bits, int i) {
        return bits >> i & 1;
    }

    /** The bodies that ran in the latest act. */
    private static final class Trace {
        private final int[] bodies = new int[MAX_TRACE];
        private int size;

        void ran(int body) {
            if (size < MAX_TRACE) {
                bodies[size] = body;
                size++;
            }
        }

        int bodyAt(int i) {
            return i >= 0 && i < size ? bodies[i] : NONE;
        }
    }

    private static class Place {
        final int number;
        final int worth;
        final Trace trace;
        int streets;

        Place(int number, int worth, Trace trace) {
            this.number = number;
            this.worth = worth;
            this.trace = trace;
        }

        int kind() {
            return PLACE;
        }

        int join(int x) {
            trace.ran(10);
            return x + streets;
        }

        int cost(int x) {
            trace.ran(11);
            return join(x) * 2;
        }

        int ask(int x) {
            trace.ran(12);
            return x - number;
        }

        int tell(int x) {
            trace.ran(13);
            return cost(x) ^ ask(x);
        }
    }

    private static class Tap extends Place {
        Tap(int number, int worth, Trace trace) {
            super(number, worth, trace);
        }

        int kind() {
            return TAP;
        }

        int cost(int x) {
            trace.ran(20);
            return super.cost(x) + 1;
        }

        int tell(int x) {
            trace.ran(21);
            return super.tell(x - 1);
        }
    }

    private static final class Wish extends Place {
        Wish(int number, int worth, Trace trace) {
            super(number, worth, trace);
        }

        int kind() {
            return WISH;
        }

        int ask(int x) {
            trace.ran(30);
            return super.ask(x) * worth;
        }
    }

    private static final class Well extends Tap {
        Well(int number, int worth, Trace trace) {
            super(number, worth, trace);
        }

        int kind() {
            return WELL;
        }

        int join(int x) {
            trace.ran(40);
            return super.join(x) + 9;
        }

        int ask(int x) {
            trace.ran(41);
            return super.ask(x * 3);
        }
    }

    private static final class Gate extends Place {
        Gate(int number, int worth, Trace trace) {
            super(number, worth, trace);
        }

        int kind() {
            return GATE;
        }

        int cost(int x) {
            trace.ran(50);
            return super.cost(x) + worth;
        }

        int tell(int x) {
            trace.ran(51);
            return ask(x) + super.tell(x);
        }
    }

    /** The places and streets, the hand's tree among them, and what can be taken back. Sets are bits. */
    private static final class Net {
        // What the log holds beside the numbers of streets that were dropped.
        private static final int PLACE_CAME = -1, STREET_CAME = -2;

        private final Place[] places = new Place[MAX_PLACES];
        private final int[] price = new int[MAX_PLACES];
        private final int[] wish = new int[MAX_PLACES];
        private final int[] streetsOf = new int[MAX_PLACES];
        private final int[] first = new int[MAX_STREETS];
        private final int[] second = new int[MAX_STREETS];
        private final int[] cost = new int[MAX_STREETS];
        private final int[] ends = new int[MAX_STREETS];
        private final int[] log = new int[MAX_UNDO];
        private final Trace trace = new Trace();
        private int placeCount;
        private int streetCount;
        private int taps;
        private int well = NONE;
        private int there;
        private int hand;
        private int logged;
        // Counts the changes, so that what was worked out for an older net is seen to be stale.
        private int version;

        boolean hasPlace(int place) {
            return place >= 0 && place < placeCount;
        }

        boolean hasStreet(int street) {
            return street >= 0 && street < streetCount;
        }

        boolean isThere(int street) {
            return bitAt(there, street) == 1;
        }

        boolean isTap(int place) {
            return bitAt(taps, place) == 1;
        }

        Place placeAt(int place) {
            return hasPlace(place) ? places[place] : null;
        }

        int streetsAt(int place) {
            return Integer.bitCount(streetsOf[place]);
        }

        boolean mayJoin(int a, int b, int amount) {
            return hasPlace(a) && hasPlace(b) && a != b && isAmount(amount);
        }

        int addPlace(int kind, int worth) {
            int number = placeCount;
            places[number] = newPlace(kind, number, worth);
            price[number] = kind == GATE ? worth : 0;
            wish[number] = kind == WISH ? worth : 0;
            if (kind == TAP || kind == WELL) {
                taps |= 1 << number;
            }
            if (kind == WELL) {
                well = number;
            }
            placeCount++;
            note(PLACE_CAME);
            return number;
        }

        private Place newPlace(int kind, int number, int worth) {
            switch (kind) {
                case TAP: return new Tap(number, worth, trace);
                case WISH: return new Wish(number, worth, trace);
                case WELL: return new Well(number, worth, trace);
                case GATE: return new Gate(number, worth, trace);
                default: return new Place(number, worth, trace);
            }
        }

        int addStreet(int a, int b, int amount) {
            int number = streetCount;
            first[number] = a;
            second[number] = b;
            cost[number] = amount;
            ends[number] = 1 << a | 1 << b;
            open(number);
            streetCount++;
            note(STREET_CAME);
            return number;
        }

        void dropStreet(int street) {
            close(street);
            hand &= ~(1 << street);
            note(street);
        }

        void takeBack() {
            logged--;
            int entry = log[logged];
            if (entry == PLACE_CAME) {
                removeLastPlace();
            } else if (entry == STREET_CAME) {
                streetCount--;
                close(streetCount);
            } else {
                open(entry);
            }
            hand = 0;
            version++;
        }

        private void removeLastPlace() {
            placeCount--;
            places[placeCount] = null;
            taps &= ~(1 << placeCount);
            if (well == placeCount) {
                well = NONE;
            }
        }

        private void open(int street) {
            there |= 1 << street;
            streetsOf[first[street]] |= 1 << street;
            streetsOf[second[street]] |= 1 << street;
        }

        private void close(int street) {
            there &= ~(1 << street);
            streetsOf[first[street]] &= ~(1 << street);
            streetsOf[second[street]] &= ~(1 << street);
        }

        private void note(int entry) {
            if (logged >= MAX_UNDO) {
                System.arraycopy(log, 1, log, 0, MAX_UNDO - 1);
                logged = MAX_UNDO - 1;
            }
            log[logged] = entry;
            logged++;
            version++;
        }
    }

    /** The ways between places and the span of the taps. */
    private static final class Ways {
        private final Net net;
        // The sum of the way from each place to the goal measured last.
        private final int[] toGoal = new int[MAX_PLACES];
        private final int[] toJoined = new int[MAX_PLACES];

        Ways(Net net) {
            this.net = net;
        }

        int sumOf(int a, int b) {
            measure(b);
            return toGoal[a] < FAR ? toGoal[a] : NO;
        }

        int placeOn(int a, int b, int i) {
            if (i < 0 || i >= net.placeCount) {
                return NONE;
            }
            measure(b);
            if (toGoal[a] >= FAR) {
                return NONE;
            }
            int at = a;
            for (int step = 0; step < i && at != NONE; step++) {
                at = nextOf(at, b);
            }
            return at;
        }

        int spanOfTaps() {
            if (net.taps == 0) {
                return NO;
            }
            Arrays.fill(toJoined, FAR);
            int joined = Integer.numberOfTrailingZeros(net.taps);
            int waiting = net.taps & ~(1 << joined);
            int sum = 0;
            for (int round = 0; round < MAX_PLACES && waiting != 0; round++) {
                comeNearer(joined);
                joined = nearestOf(waiting);
                if (joined == NONE) {
                    return NO;
                }
                sum += toJoined[joined];
                waiting &= ~(1 << joined);
            }
            return sum;
        }

        private void comeNearer(int joined) {
            measure(joined);
            for (int p = 0; p < net.placeCount; p++) {
                toJoined[p] = Math.min(toJoined[p], toGoal[p]);
            }
        }

        private int nearestOf(int waiting) {
            int nearest = NONE;
            int sum = FAR;
            for (int p = 0; p < net.placeCount; p++) {
                if (bitAt(waiting, p) == 1 && toJoined[p] < sum) {
                    nearest = p;
                    sum = toJoined[p];
                }
            }
            return nearest;
        }

        private void measure(int goal) {
            Arrays.fill(toGoal, FAR);
            toGoal[goal] = 0;
            boolean fell = true;
            for (int round = 0; round < MAX_PLACES && fell; round++) {
                fell = false;
                for (int s = 0; s < net.streetCount; s++) {
                    if (net.isThere(s)) {
                        boolean there = shorten(net.first[s], s, net.second[s], goal);
                        boolean back = shorten(net.second[s], s, net.first[s], goal);
                        fell = fell || there || back;
                    }
                }
            }
        }

        private boolean shorten(int from, int street, int over, int goal) {
            int sum = sumBy(street, over, goal);
            if (sum >= toGoal[from]) {
                return false;
            }
            toGoal[from] = sum;
            return true;
        }

        private int sumBy(int street, int over, int goal) {
            int price = over == goal ? 0 : net.price[over];
            return net.cost[street] + price + toGoal[over];
        }

        private int nextOf(int at, int goal) {
            int next = NONE;
            for (int s = 0; s < net.streetCount; s++) {
                if (bitAt(net.streetsOf[at], s) == 1) {
                    int over = net.first[s] == at ? net.second[s] : net.first[s];
                    boolean leads = sumBy(s, over, goal) == toGoal[at];
                    if (leads && (next == NONE || over < next)) {
                        next = over;
                    }
                }
            }
            return next;
        }
    }

    /** Trees as sets of streets: what is one, its price tag, how it gets better, and the best ones. */
    private static final class Trees {
        private static final int MAX_WORTH = MAX_PLACES * MAX_AMOUNT, FIRST_SIZE = 64;

        private final Net net;
        private final int[] group = new int[MAX_PLACES];
        // For each worth of wishes the least costs and prices of a tree that has it.
        private final int[] cheapest = new int[MAX_WORTH + 1];
        private int[] bests = new int[FIRST_SIZE];
        private int bestCount;
        private int least;
        private int inAll;
        private int inSome;
        private int seenVersion = NONE;

        Trees(Net net) {
            this.net = net;
        }

        int flawOf(int tree) {
            for (int p = 0; p < net.placeCount; p++) {
                group[p] = 1 << p;
            }
            int grown = 0;
            for (int s = 0; s < net.streetCount; s++) {
                if (bitAt(tree, s) == 1) {
                    int one = group[net.first[s]];
                    int other = group[net.second[s]];
                    if (one == other) {
                        return A_RING;
                    }
                    grown = one | other;
                    joinGroups(grown);
                }
            }
            int ends = endsOf(tree);
            // The latest group holds all ends just if there is no other group.
            if (tree != 0 && grown != ends) {
                return APART;
            }
            boolean hasTaps = net.taps != 0 && (net.taps & ~placesOf(tree, ends)) == 0;
            return hasTaps ? A_TREE : TAP_LACKS;
        }

        private void joinGroups(int joined) {
            for (int p = 0; p < net.placeCount; p++) {
                if (bitAt(joined, p) == 1) {
                    group[p] = joined;
                }
            }
        }

        private int endsOf(int tree) {
            int ends = 0;
            for (int s = 0; s < net.streetCount; s++) {
                if (bitAt(tree, s) == 1) {
                    ends |= net.ends[s];
                }
            }
            return ends;
        }

        private int placesOf(int tree, int ends) {
            boolean onlyTap = tree == 0 && Integer.bitCount(net.taps) == 1;
            return onlyTap ? net.taps : ends;
        }

        int tagOf(int tree) {
            int ends = endsOf(tree);
            int sum = 0;
            for (int s = 0; s < net.streetCount; s++) {
                sum += bitAt(tree, s) * net.cost[s];
            }
            for (int p = 0; p < net.placeCount; p++) {
                sum += bitAt(ends, p) * (net.price[p] - net.wish[p]);
            }
            return sum;
        }

        int trimmed(int tree) {
            int left = tree;
            for (int round = 0; round < MAX_STREETS; round++) {
                int spare = spareStreetOf(left);
                if (spare == NONE) {
                    return left;
                }
                left &= ~(1 << spare);
            }
            return left;
        }

        private int spareStreetOf(int tree) {
            for (int p = 0; p < net.placeCount; p++) {
                int own = net.streetsOf[p] & tree;
                if (!net.isTap(p) && Integer.bitCount(own) == 1) {
                    int street = Integer.numberOfTrailingZeros(own);
                    if (net.cost[street] + net.price[p] >= net.wish[p]) {
                        return street;
                    }
                }
            }
            return NONE;
        }

        int swapped(int tree) {
            int tag = tagOf(tree);
            for (int in = 0; in < net.streetCount; in++) {
                if (net.isThere(in) && bitAt(tree, in) == 0) {
                    for (int out = 0; out < net.streetCount; out++) {
                        int other = tree & ~(1 << out) | 1 << in;
                        if (bitAt(tree, out) == 1 && tagOf(other) < tag && flawOf(other) == A_TREE) {
                            return other;
                        }
                    }
                }
            }
            return tree;
        }

        int leastTag() {
            refresh();
            return bestCount == 0 ? NO : least;
        }

        int howManyBest() {
            refresh();
            return bestCount;
        }

        int streetOfBest(int k, int i) {
            refresh();
            if (k < 0 || k >= bestCount || i < 0 || i >= MAX_STREETS) {
                return NONE;
            }
            int before = 0;
            for (int s = 0; s < net.streetCount; s++) {
                if (bitAt(bests[k], s) == 1) {
                    if (before == i) {
                        return s;
                    }
                    before++;
                }
            }
            return NONE;
        }

        int useInBest(int street) {
            refresh();
            return bestCount == 0 ? NONE : bitAt(inAll, street) + bitAt(inSome, street);
        }

        int mostWorth(int sum) {
            refresh();
            for (int worth = MAX_WORTH; worth >= 0; worth--) {
                if (cheapest[worth] != NONE && cheapest[worth] <= sum) {
                    return worth;
                }
            }
            return NO;
        }

        private void refresh() {
            if (seenVersion == net.version) {
                return;
            }
            seenVersion = net.version;
            bestCount = 0;
            Arrays.fill(cheapest, NONE);
            if (net.taps != 0) {
                int root = Integer.numberOfTrailingZeros(net.taps);
                grow(0, 1 << root, net.streetsOf[root], 0, 0, 0);
                putInOrder(0, bestCount, 0);
            }
        }

        /**
         * Weighs the tree, and all that come from it by adding near streets, each in its turn, and those
         * that come near through them. None is met twice: a street whose turn has passed may come near
         * again at its other end, but then both of its ends are among the places, and it is left out.
         */
        private void grow(int tree, int places, int near, int costs, int worth, int depth) {
            if (depth >= MAX_PLACES) {
                return;
            }
            if ((net.taps & ~places) == 0) {
                weigh(tree, costs, worth);
            }
            int left = near;
            for (int turn = 0; turn < MAX_STREETS && left != 0; turn++) {
                int street = Integer.numberOfTrailingZeros(left);
                left &= ~(1 << street);
                int reached = net.ends[street] & ~places;
                if (reached != 0) {
                    int p = Integer.numberOfTrailingZeros(reached);
                    grow(tree | 1 << street, places | reached, left | net.streetsOf[p],
                            costs + net.cost[street] + net.price[p], worth + net.wish[p], depth + 1);
                }
            }
        }

        private void weigh(int tree, int costs, int worth) {
            if (worth < 0 || worth > MAX_WORTH) {
                return;
            }
            if (cheapest[worth] == NONE || costs < cheapest[worth]) {
                cheapest[worth] = costs;
            }
            int tag = costs - worth;
            if (bestCount == 0 || tag < least) {
                least = tag;
                bestCount = 0;
                inAll = tree;
                inSome = tree;
            }
            if (tag == least) {
                keep(tree);
            }
        }

        private void keep(int tree) {
            if (bestCount >= bests.length) {
                bests = Arrays.copyOf(bests, bests.length * 2);
            }
            bests[bestCount] = tree;
            bestCount++;
            inAll &= tree;
            inSome |= tree;
        }

        private void putInOrder(int from, int to, int street) {
            if (to - from < 2 || street >= MAX_STREETS) {
                return;
            }
            int middle = from;
            for (int i = from; i < to; i++) {
                if (bitAt(bests[i], street) == 1) {
                    int moved = bests[i];
                    bests[i] = bests[middle];
                    bests[middle] = moved;
                    middle++;
                }
            }
            putInOrder(from, middle, street + 1);
            putInOrder(middle, to, street + 1);
        }
    }

    /** The walls and their shares, which show from below what a tree must cost. */
    private static final class Walls {
        // Each joining makes one part more, and each growth comes before a joining.
        private static final int MAX_PARTS = 2 * MAX_PLACES, MAX_STEPS = 4 * MAX_PLACES, UNIT = 1024;
        private static final int RAISED = 0, NO_TAP = -1, FAILED = -2;

        private final Net net;
        private final int[] places = new int[MAX_PARTS];
        private final int[] share = new int[MAX_PARTS];
        private final int[] partOf = new int[MAX_PLACES];
        private int partCount;
        private int rootBit;
        private int outcome;
        private int seenVersion = NONE;

        Walls(Net net) {
            this.net = net;
        }

        int howMany() {
            refresh();
            if (outcome != RAISED) {
                return outcome;
            }
            int many = 0;
            for (int part = 0; part < partCount; part++) {
                if (share[part] > 0) {
                    many++;
                }
            }
            return many;
        }

        int toldOf(int i, int what) {
            refresh();
            if (outcome != RAISED || what < 0 || what > 1) {
                return NONE;
            }
            int before = 0;
            for (int part = 0; part < partCount; part++) {
                if (share[part] > 0) {
                    if (before == i) {
                        return what == 0 ? places[part] : share[part];
                    }
                    before++;
                }
            }
            return NONE;
        }

        int sumOfShares() {
            refresh();
            if (outcome != RAISED) {
                return NO;
            }
            int sum = 0;
            for (int part = 0; part < partCount; part++) {
                sum += share[part];
            }
            return sum;
        }

        private void refresh() {
            if (seenVersion == net.version) {
                return;
            }
            seenVersion = net.version;
            if (net.taps == 0) {
                outcome = NO_TAP;
                return;
            }
            rootBit = net.well == NONE ? Integer.lowestOneBit(net.taps) : 1 << net.well;
            startParts();
            outcome = RAISED;
            for (int step = 0; step < MAX_STEPS && outcome == RAISED && someActive(); step++) {
                goOn();
            }
        }

        private void startParts() {
            partCount = 0;
            for (int p = 0; p < net.placeCount; p++) {
                addPart(1 << p);
            }
        }

        private void addPart(int bits) {
            if (partCount >= MAX_PARTS) {
                return;
            }
            places[partCount] = bits;
            share[partCount] = 0;
            for (int p = 0; p < net.placeCount; p++) {
                if (bitAt(bits, p) == 1) {
                    partOf[p] = partCount;
                }
            }
            partCount++;
        }

        private boolean isActive(int part) {
            int bits = places[part];
            return (bits & net.taps) != 0 && (bits & rootBit) == 0;
        }

        private boolean someActive() {
            for (int p = 0; p < net.placeCount; p++) {
                if (isActive(partOf[p])) {
                    return true;
                }
            }
            return false;
        }

        private void goOn() {
            int growth = FAR;
            for (int s = 0; s < net.streetCount; s++) {
                int active = activeSidesOf(s);
                if (active > 0) {
                    int room = roomOf(s);
                    if (room < active) {
                        addPart(places[partOf[net.first[s]]] | places[partOf[net.second[s]]]);
                        return;
                    }
                    growth = Math.min(growth, room / active);
                }
            }
            if (growth == FAR) {
                outcome = FAILED;
            } else {
                growActive(growth);
            }
        }

        private int activeSidesOf(int street) {
            int one = partOf[net.first[street]];
            int other = partOf[net.second[street]];
            if (!net.isThere(street) || one == other) {
                return 0;
            }
            return (isActive(one) ? 1 : 0) + (isActive(other) ? 1 : 0);
        }

        private int roomOf(int street) {
            int room = UNIT * net.cost[street];
            for (int part = 0; part < partCount; part++) {
                if (Integer.bitCount(places[part] & net.ends[street]) == 1) {
                    room -= share[part];
                }
            }
            return room;
        }

        private void growActive(int growth) {
            for (int part = 0; part < partCount; part++) {
                boolean stands = partOf[Integer.numberOfTrailingZeros(places[part])] == part;
                if (stands && isActive(part)) {
                    share[part] += growth;
                }
            }
        }
    }

    /** The maps: rows of numbers of a sort, or missing. */
    private static final class Maps {
        private final int[] sort = {NONE, NONE, NONE, NONE, NONE};
        private final int[] size = new int[MAPS];
        private final int[][] cells = new int[MAPS][MAX_MAP_SIZE];

        void make(int map, int newSort, int newSize) {
            sort[map] = newSort;
            size[map] = newSize;
            Arrays.fill(cells[map], 0);
        }

        /** Why a map, taken for one of a sort, does not give so many numbers from a place on. */
        int refusal(int map, int asSort, int from, int many) {
            if (sort[map] == NONE) {
                return NOTHING;
            }
            if (sort[map] != asSort) {
                return OTHER_SORT;
            }
            if (from < 0 || many < 0 || from > size[map] - many) {
                return OUTSIDE;
            }
            return DONE;
        }
    }
}
