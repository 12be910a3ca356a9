import java.util.ArrayDeque;
import java.util.ArrayList;
import java.util.Arrays;
import java.util.Collections;
import java.util.Deque;
import java.util.HashMap;
import java.util.List;
import java.util.Map;
import java.util.TreeMap;
import java.util.TreeSet;

/**
 * The document once more, told as literally as it goes and without a thought for speed: every set of
 * streets is looked at, every row of places is walked, and the host itself is made to refuse.
 */
public final class Reference {
    private static final int NO = -1000000;
    private static final int[] ABOVE = {-1, 0, 0, 1, 0};
    // By kind, then by act (join, cost, ask, tell); 0: the kind has no such body.
    private static final int[][] BODY = {
        {10, 11, 12, 13}, {0, 20, 0, 21}, {0, 0, 30, 0}, {40, 0, 41, 0}, {0, 50, 0, 51}};

    static class KindPlace { }
    static class KindTap extends KindPlace { }
    static class KindWish extends KindPlace { }
    static class KindWell extends KindTap { }
    static class KindGate extends KindPlace { }
    private static final Class<?>[] CLASSES = {
        KindPlace.class, KindTap.class, KindWish.class, KindWell.class, KindGate.class};

    private record Spot(int kind, int worth) { }
    private record Lane(int a, int b, int cost, boolean there) { }
    private record Snapshot(List<Spot> spots, List<Lane> lanes) { }
    private record Raised(TreeSet<Integer> places, long[] share) { }

    private List<Spot> spots = new ArrayList<>();
    private List<Lane> lanes = new ArrayList<>();
    private final TreeSet<Integer> hand = new TreeSet<>();
    private final Deque<Snapshot> undos = new ArrayDeque<>();
    private final List<Integer> trace = new ArrayList<>();
    private final Object[] maps = new Object[5];
    private int status = 0;
    private List<TreeSet<Integer>> allTrees = null;
    private List<TreeSet<Integer>> bestTrees = null;

    private int fail(int code) {
        status = code;
        return -1;
    }

    private int ok(int answer) {
        status = 0;
        return answer;
    }

    private void remember() {
        undos.push(new Snapshot(new ArrayList<>(spots), new ArrayList<>(lanes)));
        if (undos.size() > 10) undos.removeLast();
        forget();
    }

    private void forget() {
        allTrees = null;
        bestTrees = null;
    }

    private boolean spot(int p) { return p >= 0 && p < spots.size(); }
    private boolean lane(int s) { return s >= 0 && s < lanes.size(); }

    private List<Integer> taps() {
        List<Integer> taps = new ArrayList<>();
        for (int p = 0; p < spots.size(); p++) {
            if (spots.get(p).kind == 1 || spots.get(p).kind == 3) taps.add(p);
        }
        return taps;
    }

    private int price(int p) { return spots.get(p).kind == 4 ? spots.get(p).worth : 0; }
    private int wish(int p) { return spots.get(p).kind == 2 ? spots.get(p).worth : 0; }

    private int degree(int p) {
        int d = 0;
        for (Lane l : lanes) if (l.there && (l.a == p || l.b == p)) d++;
        return d;
    }

    public int place(int kind, int worth) {
        boolean weighs = kind == 2 || kind == 4;
        if (kind < 0 || kind > 4 || weighs && (worth < 1 || worth > 100)) return fail(1);
        if (spots.size() == 10) return fail(2);
        if (kind == 3 && spots.stream().anyMatch(s -> s.kind == 3)) return fail(3);
        remember();
        spots.add(new Spot(kind, weighs ? worth : 0));
        return ok(spots.size() - 1);
    }

    public int street(int a, int b, int cost) {
        if (!spot(a) || !spot(b) || a == b || cost < 1 || cost > 100) return fail(1);
        if (lanes.size() == 16) return fail(2);
        remember();
        lanes.add(new Lane(a, b, cost, true));
        return ok(lanes.size() - 1);
    }

    public int drop(int street) {
        if (!lane(street)) return fail(1);
        Lane l = lanes.get(street);
        if (!l.there) return fail(3);
        remember();
        lanes.set(street, new Lane(l.a, l.b, l.cost, false));
        hand.remove(street);
        return ok(1);
    }

    public int undo() {
        if (undos.isEmpty()) return fail(3);
        Snapshot back = undos.pop();
        spots = back.spots;
        lanes = back.lanes;
        hand.clear();
        forget();
        return ok(1);
    }

    public int told(int place, int what) {
        if (!spot(place)) return -1;
        if (what == 0) return spots.get(place).kind;
        if (what == 1) return spots.get(place).worth;
        return what == 2 ? degree(place) : -1;
    }

    public int streetTold(int street, int what) {
        if (!lane(street)) return -1;
        Lane l = lanes.get(street);
        int[] all = {l.a, l.b, l.cost, l.there ? 1 : 0, hand.contains(street) ? 1 : 0};
        return what < 0 || what > 4 ? -1 : all[what];
    }

    public int count(int what) {
        int there = (int) lanes.stream().filter(l -> l.there).count();
        int[] all = {spots.size(), lanes.size(), there, taps().size(), hand.size(), trace.size(), undos.size()};
        return what < 0 || what > 6 ? -1 : all[what];
    }

    // Every row of places without a repeat, by depth first search; the sum is kept beside it.
    private void walk(List<Integer> row, int sum, int b, TreeMap<Integer, List<List<Integer>>> found) {
        int at = row.get(row.size() - 1);
        if (at == b) {
            found.computeIfAbsent(sum, k -> new ArrayList<>()).add(new ArrayList<>(row));
            return;
        }
        int toll = row.size() == 1 ? 0 : price(at);
        for (int next = 0; next < spots.size(); next++) {
            int cheapest = Integer.MAX_VALUE;
            for (Lane l : lanes) {
                boolean joins = l.a == at && l.b == next || l.b == at && l.a == next;
                if (l.there && joins) cheapest = Math.min(cheapest, l.cost);
            }
            if (cheapest < Integer.MAX_VALUE && !row.contains(next)) {
                row.add(next);
                walk(row, sum + toll + cheapest, b, found);
                row.remove(row.size() - 1);
            }
        }
    }

    private Map.Entry<Integer, List<Integer>> theWay(int a, int b) {
        if (!spot(a) || !spot(b)) return null;
        TreeMap<Integer, List<List<Integer>>> found = new TreeMap<>();
        walk(new ArrayList<>(List.of(a)), 0, b, found);
        if (found.isEmpty()) return null;
        List<List<Integer>> rows = found.firstEntry().getValue();
        List<Integer> first = Collections.min(rows, (x, y) -> Arrays.compare(
            x.stream().mapToInt(i -> i).toArray(), y.stream().mapToInt(i -> i).toArray()));
        return Map.entry(found.firstKey(), first);
    }

    public int apart(int a, int b) {
        var way = theWay(a, b);
        return way == null ? NO : way.getKey();
    }

    public int way(int a, int b, int i) {
        var way = theWay(a, b);
        return way == null || i < 0 || i >= way.getValue().size() ? -1 : way.getValue().get(i);
    }

    public int span() {
        List<Integer> taps = taps();
        if (taps.isEmpty()) return NO;
        List<int[]> pairs = new ArrayList<>();
        for (int a : taps) {
            for (int b : taps) {
                if (a < b && apart(a, b) != NO) pairs.add(new int[] {apart(a, b), a, b});
            }
        }
        pairs.sort((x, y) -> x[0] - y[0]);
        int[] group = new int[10];
        for (int i = 0; i < 10; i++) group[i] = i;
        int sum = 0;
        int left = taps.size() - 1;
        for (int[] pair : pairs) {
            int from = group[pair[1]];
            int to = group[pair[2]];
            if (from != to) {
                for (int i = 0; i < 10; i++) if (group[i] == from) group[i] = to;
                sum += pair[0];
                left--;
            }
        }
        return left == 0 ? sum : NO;
    }

    private TreeSet<Integer> placesOf(TreeSet<Integer> set) {
        TreeSet<Integer> places = new TreeSet<>();
        for (int s : set) {
            places.add(lanes.get(s).a);
            places.add(lanes.get(s).b);
        }
        if (set.isEmpty() && taps().size() == 1) places.add(taps().get(0));
        return places;
    }

    // A ring is there just if taking off streets at places with a single one does not use the set up.
    private boolean ring(TreeSet<Integer> set) {
        TreeSet<Integer> left = new TreeSet<>(set);
        boolean fell = true;
        while (fell) {
            fell = false;
            for (int p = 0; p < spots.size(); p++) {
                List<Integer> own = new ArrayList<>();
                for (int s : left) if (lanes.get(s).a == p || lanes.get(s).b == p) own.add(s);
                if (own.size() == 1) {
                    left.remove(own.get(0));
                    fell = true;
                }
            }
        }
        return !left.isEmpty();
    }

    private boolean hangs(TreeSet<Integer> set) {
        TreeSet<Integer> places = placesOf(set);
        if (set.isEmpty()) return true;
        TreeSet<Integer> reached = new TreeSet<>(List.of(places.first()));
        for (int round = 0; round < 20; round++) {
            for (int s : set) {
                Lane l = lanes.get(s);
                if (reached.contains(l.a) || reached.contains(l.b)) {
                    reached.add(l.a);
                    reached.add(l.b);
                }
            }
        }
        return reached.equals(places);
    }

    private int whyOf(TreeSet<Integer> set) {
        if (ring(set)) return 1;
        if (!hangs(set)) return 2;
        return taps().isEmpty() || !placesOf(set).containsAll(taps()) ? 3 : 0;
    }

    private int grossOf(TreeSet<Integer> set) {
        int sum = 0;
        for (int s : set) sum += lanes.get(s).cost;
        for (int p : placesOf(set)) sum += price(p);
        return sum;
    }

    private int worthOf(TreeSet<Integer> set) {
        int sum = 0;
        for (int p : placesOf(set)) sum += wish(p);
        return sum;
    }

    private int tagOf(TreeSet<Integer> set) { return grossOf(set) - worthOf(set); }

    private List<TreeSet<Integer>> trees() {
        if (allTrees != null) return allTrees;
        allTrees = new ArrayList<>();
        if (taps().isEmpty()) return allTrees;
        for (int mask = 0; mask < 1 << lanes.size(); mask++) {
            if (Integer.bitCount(mask) >= Math.max(1, spots.size())) continue;
            TreeSet<Integer> set = new TreeSet<>();
            boolean there = true;
            for (int s = 0; s < lanes.size(); s++) {
                if ((mask >> s & 1) == 1) {
                    set.add(s);
                    there &= lanes.get(s).there;
                }
            }
            if (there && whyOf(set) == 0) allTrees.add(set);
        }
        return allTrees;
    }

    private static int ahead(TreeSet<Integer> x, TreeSet<Integer> y) {
        for (int s = 0; s < 16; s++) {
            if (x.contains(s) != y.contains(s)) return x.contains(s) ? -1 : 1;
        }
        return 0;
    }

    private List<TreeSet<Integer>> bests() {
        if (bestTrees != null) return bestTrees;
        bestTrees = new ArrayList<>();
        int least = least();
        for (TreeSet<Integer> tree : trees()) if (tagOf(tree) == least) bestTrees.add(tree);
        bestTrees.sort(Reference::ahead);
        return bestTrees;
    }

    public int least() { return trees().stream().mapToInt(this::tagOf).min().orElse(NO); }
    public int many() { return bests().size(); }

    public int best(int k, int i) {
        if (k < 0 || k >= bests().size() || i < 0 || i >= bests().get(k).size()) return -1;
        return new ArrayList<>(bests().get(k)).get(i);
    }

    public int must(int street) {
        if (!lane(street) || bests().isEmpty()) return -1;
        long in = bests().stream().filter(t -> t.contains(street)).count();
        return in == 0 ? 0 : in == bests().size() ? 2 : 1;
    }

    public int most(int sum) {
        return trees().stream().filter(t -> grossOf(t) <= sum).mapToInt(this::worthOf).max().orElse(NO);
    }

    public int lay(int street) {
        if (!lane(street) || !lanes.get(street).there) return fail(1);
        if (hand.remove(street)) return ok(0);
        hand.add(street);
        return ok(1);
    }

    public int clear() {
        int had = hand.size();
        hand.clear();
        return ok(had);
    }

    public int why() { return whyOf(hand); }
    public int tag() { return why() == 0 ? tagOf(hand) : NO; }

    public int trim() {
        if (why() != 0) return fail(3);
        int went = 0;
        boolean again = true;
        while (again) {
            again = false;
            for (int p = 0; p < spots.size() && !again; p++) {
                if (taps().contains(p)) continue;
                List<Integer> own = new ArrayList<>();
                for (int s : hand) if (lanes.get(s).a == p || lanes.get(s).b == p) own.add(s);
                if (own.size() == 1 && lanes.get(own.get(0)).cost + price(p) >= wish(p)) {
                    hand.remove(own.get(0));
                    went++;
                    again = true;
                }
            }
        }
        return ok(went);
    }

    public int better() {
        if (why() != 0) return fail(3);
        int tag = tag();
        for (int in = 0; in < lanes.size(); in++) {
            if (!lanes.get(in).there || hand.contains(in)) continue;
            for (int out : new ArrayList<>(hand)) {
                TreeSet<Integer> other = new TreeSet<>(hand);
                other.add(in);
                other.remove(out);
                if (whyOf(other) == 0 && tagOf(other) < tag) {
                    hand.add(in);
                    hand.remove(out);
                    return ok(tag - tagOf(other));
                }
            }
        }
        return ok(0);
    }

    private boolean isWall(TreeSet<Integer> set) {
        List<Integer> taps = taps();
        int root = taps.get(0);
        for (int t : taps) if (spots.get(t).kind == 3) root = t;
        return set.stream().anyMatch(taps::contains) && !set.contains(root);
    }

    // null: it fails.
    private List<Raised> raise() {
        List<Raised> ever = new ArrayList<>();
        List<Raised> parts = new ArrayList<>();
        for (int p = 0; p < spots.size(); p++) parts.add(new Raised(new TreeSet<>(List.of(p)), new long[1]));
        ever.addAll(parts);
        while (parts.stream().anyMatch(r -> isWall(r.places))) {
            Raised[] joined = null;
            long growth = Long.MAX_VALUE;
            for (Lane l : lanes) {
                Raised one = parts.stream().filter(r -> r.places.contains(l.a)).findFirst().orElseThrow();
                Raised two = parts.stream().filter(r -> r.places.contains(l.b)).findFirst().orElseThrow();
                int c = (isWall(one.places) ? 1 : 0) + (isWall(two.places) ? 1 : 0);
                if (!l.there || one == two || c == 0) continue;
                long room = 1024L * l.cost;
                for (Raised r : ever) if (r.places.contains(l.a) != r.places.contains(l.b)) room -= r.share[0];
                if (room < c && joined == null) joined = new Raised[] {one, two};
                growth = Math.min(growth, room / c);
            }
            if (growth == Long.MAX_VALUE) return null;
            if (joined != null) {
                Raised whole = new Raised(new TreeSet<>(joined[0].places), new long[1]);
                whole.places.addAll(joined[1].places);
                parts.removeAll(List.of(joined));
                parts.add(whole);
                ever.add(whole);
            } else {
                for (Raised r : parts) if (isWall(r.places)) r.share[0] += growth;
            }
        }
        ever.removeIf(r -> r.share[0] == 0);
        return ever;
    }

    public int walls() {
        if (taps().isEmpty()) return -1;
        List<Raised> raised = raise();
        return raised == null ? -2 : raised.size();
    }

    public int wall(int i, int what) {
        if (i < 0 || i >= walls() || what < 0 || what > 1) return -1;
        Raised wall = raise().get(i);
        return what == 1 ? (int) wall.share[0] : wall.places.stream().mapToInt(p -> 1 << p).sum();
    }

    public int bound() {
        return walls() < 0 ? NO : (int) raise().stream().mapToLong(r -> r.share[0]).sum();
    }

    private int call(int p, int from, int act, int x) {
        int kind = from;
        while (BODY[kind][act] == 0) kind = ABOVE[kind];
        int body = BODY[kind][act];
        int own = spots.get(p).kind;
        int up = ABOVE[kind];
        int w = spots.get(p).worth;
        if (trace.size() < 50) trace.add(body);
        return switch (body) {
            case 10 -> x + degree(p);
            case 11 -> call(p, own, 0, x) * 2;
            case 12 -> x - p;
            case 13 -> call(p, own, 1, x) ^ call(p, own, 2, x);
            case 20 -> call(p, up, 1, x) + 1;
            case 21 -> call(p, up, 3, x - 1);
            case 30 -> call(p, up, 2, x) * w;
            case 40 -> call(p, up, 0, x) + 9;
            case 41 -> call(p, up, 2, x * 3);
            case 50 -> call(p, up, 1, x) + w;
            default -> call(p, own, 2, x) + call(p, up, 3, x);
        };
    }

    public int act(int place, int act, int x) {
        if (!spot(place) || act < 0 || act > 3) return fail(1);
        trace.clear();
        return ok(call(place, spots.get(place).kind, act, x));
    }

    public int trace(int i) { return i < 0 || i >= trace.size() ? -1 : trace.get(i); }

    public int map(int map, int sort, int n) {
        if (map < 0 || map > 4 || sort < -1 || sort > 2 || sort != -1 && (n < 0 || n > 20)) return fail(1);
        maps[map] = switch (sort) {
            case 0 -> new byte[n];
            case 1 -> new int[n];
            case 2 -> new long[n];
            default -> null;
        };
        return ok(1);
    }

    private int hosts(RuntimeException refusal) {
        if (refusal instanceof NullPointerException) return fail(10);
        if (refusal instanceof ClassCastException) return fail(11);
        if (refusal instanceof IndexOutOfBoundsException) return fail(12);
        if (refusal instanceof NegativeArraySizeException) return fail(13);
        if (refusal instanceof ArrayStoreException) return fail(14);
        if (refusal instanceof ArithmeticException) return fail(15);
        throw refusal;
    }

    public int cell(int map, int i, int v) {
        if (map < 0 || map > 4) return fail(1);
        try {
            if (maps[map] instanceof byte[] bytes) bytes[i] = (byte) v;
            else if (maps[map] instanceof long[] longs) longs[i] = v;
            else ((int[]) maps[map])[i] = v;
            return ok(1);
        } catch (RuntimeException refusal) {
            return hosts(refusal);
        }
    }

    private static int read(Object map, int sort, int i) {
        if (sort == 0) return ((byte[]) map)[i];
        if (sort == 1) return ((int[]) map)[i];
        return (int) ((long[]) map)[i];
    }

    public int fromMap(int map, int sort, int i) {
        if (map < 0 || map > 4 || sort < 0 || sort > 2) return fail(1);
        if (lanes.size() == 16) return fail(2);
        int[] read = new int[3];
        try {
            for (int j = 0; j < 3; j++) read[j] = read(maps[map], sort, Math.addExact(i, j));
        } catch (ArithmeticException far) {
            return fail(12);
        } catch (RuntimeException refusal) {
            return hosts(refusal);
        }
        int number = street(read[0], read[1], read[2]);
        return number == -1 ? fail(3) : number;
    }

    public int forge(int what, int n, int k) {
        if (what < 0 || what > 6 || Math.abs((long) n) > 100 || Math.abs((long) k) > 100) return fail(1);
        int p = Math.floorMod(k, 10);
        Object map = maps[Math.floorMod(k, 5)];
        try {
            Object thing = spot(p) ? CLASSES[spots.get(p).kind].getDeclaredConstructor().newInstance() : null;
            return ok(switch (what) {
                case 0 -> kindOf(CLASSES[Math.floorMod(n, 5)].cast(thing).getClass());
                case 1 -> new int[n].length;
                case 2 -> ((int[]) map)[n];
                case 3 -> copied((byte[]) map, n);
                case 4 -> {
                    Object[] row = new KindTap[1];
                    row[0] = thing;
                    yield thing == null ? 0 : kindOf(thing.getClass());
                }
                case 5 -> 1000 / n;
                default -> failure(Math.floorMod(n, 2));
            });
        } catch (ReflectiveOperationException impossible) {
            throw new IllegalStateException(impossible);
        } catch (RuntimeException refusal) {
            return hosts(refusal);
        }
    }

    private static int kindOf(Class<?> kind) { return Arrays.asList(CLASSES).indexOf(kind); }

    private static int copied(byte[] from, int n) {
        byte[] row = new byte[6];
        System.arraycopy(from, 1, row, n, n);
        int sum = 0;
        for (byte b : row) sum += b;
        return sum;
    }

    private static int failure(int one) {
        RuntimeException thrown = one == 0 ? null : new IllegalStateException();
        try {
            throw thrown;
        } catch (IllegalStateException caught) {
            return 1;
        }
    }

    public int status() { return status; }
}
