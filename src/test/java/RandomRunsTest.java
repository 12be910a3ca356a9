import java.lang.reflect.Method;
import java.lang.reflect.Modifier;
import java.util.Arrays;
import java.util.Random;
import java.util.TreeMap;

/** Runs of calls drawn with fixed seeds, each answered by DripLines and by Reference alike. */
public final class RandomRunsTest {
    private static final int[] ODD = {Integer.MIN_VALUE, Integer.MIN_VALUE + 1, -1000001, -101, -100, -2, -1,
        100, 101, 1000, Integer.MAX_VALUE - 2, Integer.MAX_VALUE - 1, Integer.MAX_VALUE};
    private static final String[] BUILD = {"place", "street", "street", "drop", "undo", "fromMap"};
    private static final String[] HAND = {"lay", "lay", "lay", "lay", "better", "trim", "clear"};
    private static final TreeMap<String, Method> OWN = face(DripLines.class);
    private static final TreeMap<String, Method> DUE = face(Reference.class);
    private static final String[] NAMES = OWN.keySet().toArray(new String[0]);

    private final Random random;
    private final int maxPlaces;
    private final int maxStreets;
    private final int maxCost;
    private final DripLines own = new DripLines();
    private final Reference due = new Reference();
    private final StringBuilder told = new StringBuilder();
    private boolean wrong = false;

    private RandomRunsTest(long seed) {
        random = new Random(seed);
        boolean full = seed % 40 == 0;
        maxPlaces = full || seed % 7 == 0 ? 10 : 2 + random.nextInt(7);
        maxStreets = full ? 16 : 3 + random.nextInt(7);
        maxCost = random.nextInt(3) == 0 ? 100 : 1 + random.nextInt(8);
    }

    private static TreeMap<String, Method> face(Class<?> of) {
        TreeMap<String, Method> methods = new TreeMap<>();
        for (Method m : of.getDeclaredMethods()) {
            if (Modifier.isPublic(m.getModifiers())) methods.put(m.getName(), m);
        }
        return methods;
    }

    private void ask(String name, int... numbers) {
        if (wrong) return;
        Object[] arguments = Arrays.stream(numbers).boxed().toArray();
        int got;
        int want;
        try {
            got = (int) OWN.get(name).invoke(own, arguments);
            want = (int) DUE.get(name).invoke(due, arguments);
        } catch (ReflectiveOperationException thrown) {
            throw new IllegalStateException(told + name + Arrays.toString(numbers), thrown);
        }
        told.append(name).append(Arrays.toString(numbers)).append(" = ").append(want).append('\n');
        if (got != want || own.status() != due.status()) {
            wrong = true;
            System.out.println(told + "the last call answered " + got + " with status " + own.status()
                + ", due is " + want + " with status " + due.status());
        }
    }

    private int pick(int limit) {
        if (random.nextInt(50) == 0) return ODD[random.nextInt(ODD.length)];
        return random.nextInt(25) == 0 ? limit + 1 : random.nextInt(Math.max(1, limit + 1));
    }

    private int amount() {
        return random.nextInt(25) == 0 ? random.nextInt(103) - 1 : 1 + random.nextInt(maxCost);
    }

    private int[] arguments(String name) {
        int place = due.count(0) - 1;
        int street = due.count(1) - 1;
        switch (name) {
            case "place": return new int[] {pick(4), amount()};
            case "street": return new int[] {pick(place), pick(place), amount()};
            case "drop", "lay", "must": return new int[] {pick(street)};
            case "told": return new int[] {pick(place), pick(2)};
            case "streetTold": return new int[] {pick(street), pick(4)};
            case "apart": return new int[] {pick(place), pick(place)};
            case "way": return new int[] {pick(place), pick(place), pick(4)};
            case "best": return new int[] {pick(due.many() - 1), pick(5)};
            case "most": return new int[] {pick(random.nextBoolean() ? 30 : 900)};
            case "wall": return new int[] {pick(due.walls() - 1), pick(1)};
            case "act": return new int[] {pick(place), pick(3), random.nextBoolean() ? pick(20) : random.nextInt()};
            case "map": return new int[] {pick(4), pick(3) - 1, pick(20)};
            case "cell": return new int[] {pick(4), pick(9), random.nextInt(4) == 0 ? random.nextInt() : pick(9)};
            case "fromMap": return new int[] {pick(4), pick(2), pick(6)};
            case "forge": return new int[] {pick(6), pick(9) - 3, pick(20) - 8};
            case "count": return new int[] {pick(6)};
            case "trace": return new int[] {pick(7)};
            default: return new int[0];
        }
    }

    private void start() {
        for (int p = 0; p < maxPlaces; p++) {
            ask("place", random.nextInt(4) == 0 ? 1 : random.nextInt(5), 1 + random.nextInt(maxCost));
        }
        for (int p = 1; p < maxPlaces && due.count(1) < maxStreets; p++) {
            int before = random.nextInt(p);
            ask("street", random.nextBoolean() ? p : before, before, 1 + random.nextInt(maxCost));
            ask("street", p, before, 1 + random.nextInt(maxCost));
            if (random.nextInt(3) != 0) ask("undo");
        }
        for (int tries = 0; tries < 40 && due.count(1) < maxStreets; tries++) {
            ask("street", random.nextInt(maxPlaces), random.nextInt(maxPlaces), 1 + random.nextInt(maxCost));
        }
    }

    private void streetInMap() {
        int map = random.nextInt(5);
        int sort = random.nextInt(3);
        int at = random.nextInt(5);
        ask("map", map, sort, at + 2 + random.nextInt(3));
        ask("cell", map, at, pick(due.count(0) - 1));
        ask("cell", map, at + 1, pick(due.count(0) - 1));
        ask("cell", map, at + 2, amount());
        if (due.count(1) < maxStreets) ask("fromMap", map, random.nextInt(6) == 0 ? random.nextInt(3) : sort, at);
        ask("forge", 2 + random.nextInt(2), random.nextInt(6) - 1, map - 5 * random.nextInt(3));
    }

    private void layBest() {
        if (due.many() == 0) return;
        ask("clear");
        int k = random.nextInt(due.many());
        for (int i = 0; due.best(k, i) != -1; i++) ask("lay", due.best(k, i));
        useHand();
    }

    // A set without a ring drawn at random, so that trim and better have something to do.
    private void laySome() {
        ask("clear");
        int streets = due.count(1);
        for (int tries = 0; tries < 3 * streets; tries++) {
            int street = random.nextInt(streets);
            if (due.streetTold(street, 3) == 1 && due.streetTold(street, 4) == 0) {
                ask("lay", street);
                ask("why");
                if (due.why() == 1) ask("lay", street);
            }
        }
        useHand();
    }

    private void useHand() {
        for (String name : new String[] {"why", "tag", "better", "tag", "better", "trim", "tag", "better"}) ask(name);
        survey("streetTold", due.count(1), 5);
    }

    private void survey(String name, int limit, int what) {
        for (int i = -1; i <= limit; i++) {
            for (int j = -1; j <= what; j++) ask(name, i, j);
        }
    }

    private void surveyAll() {
        int places = due.count(0);
        for (String name : new String[] {"span", "least", "many", "walls", "bound", "why", "tag"}) ask(name);
        survey("told", places, 3);
        survey("streetTold", due.count(1), 5);
        survey("apart", places, places);
        survey("wall", Math.max(0, due.walls()), 2);
        for (int k = -1; k <= Math.min(60, due.many()); k++) {
            for (int i = -1; i <= 9; i++) ask("best", k, i);
        }
        for (int s = -1; s <= due.count(1); s++) ask("must", s);
        for (int sum = -1; sum < 12 * maxCost; sum += 1 + maxCost / 8) ask("most", sum);
        for (int a = 0; a < places; a++) {
            int b = random.nextInt(places);
            for (int i = -1; i <= places; i++) ask("way", a, b, i);
        }
        for (int p = 0; p < places; p++) {
            ask("act", p, random.nextInt(4), random.nextInt(200) - 100);
            for (int i = -1; i < 9; i++) ask("trace", i);
        }
        for (int what = -1; what <= 7; what++) ask("count", what);
    }

    private boolean mayAsk(String name) {
        if (name.equals("place")) return due.count(0) < maxPlaces || random.nextInt(4) == 0 && maxPlaces == 10;
        if (name.equals("street") || name.equals("fromMap")) return due.count(1) < maxStreets || maxStreets == 16;
        return true;
    }

    private void run(int calls) {
        if (random.nextInt(6) != 0) start();
        for (int i = 0; i < calls && !wrong; i++) {
            int draw = random.nextInt(40);
            if (draw == 0) surveyAll();
            else if (draw < 3) laySome();
            else if (draw < 5) layBest();
            else if (draw < 7) streetInMap();
            else {
                String[] from = draw < 12 ? BUILD : draw < 16 ? HAND : NAMES;
                String name = from[random.nextInt(from.length)];
                if (mayAsk(name)) ask(name, arguments(name));
            }
        }
        surveyAll();
    }

    public static void main(String[] args) {
        Watch.over("random runs");
        long first = args.length > 0 ? Long.parseLong(args[0]) : 1;
        long last = args.length > 1 ? Long.parseLong(args[1]) : 800;
        int wrong = 0;
        for (long seed = first; seed <= last && wrong < 3; seed++) {
            RandomRunsTest test = new RandomRunsTest(seed);
            test.run(seed % 40 == 0 ? 20 : 60);
            if (test.wrong) {
                System.out.println("run " + seed + " is not as due");
                wrong++;
            }
        }
        System.out.println(wrong == 0 ? "random runs: all as due" : "random runs: wrong answers");
        if (wrong != 0) System.exit(1);
    }
}
