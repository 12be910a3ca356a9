import java.lang.reflect.Method;
import java.util.Arrays;
import java.util.Comparator;
import java.util.Random;

/** Runs of calls drawn with fixed seeds, each answered by DripLines and by Reference alike. */
public final class RandomRunsTest {
    private static final String[] BUILD = {"place", "street", "street", "street", "drop"};
    private static final String[] HAND = {"lay", "lay", "lay", "lay", "better", "trim", "clear"};
    private static final int[] ODD = {Integer.MIN_VALUE, -1000001, -101, -100, -2, -1, 100, 101, 1000, Integer.MAX_VALUE - 1, Integer.MAX_VALUE};

    private final Random random;
    private final int maxPlaces;
    private final int maxStreets;
    private final int maxCost;
    private final boolean growing;
    private DripLines own = new DripLines();
    private Reference due = new Reference();
    private final StringBuilder told = new StringBuilder();

    private RandomRunsTest(long seed) {
        random = new Random(seed);
        maxPlaces = seed % 7 == 0 ? 11 : 3 + random.nextInt(6);
        maxStreets = seed % 40 == 0 ? 17 : 3 + random.nextInt(7);
        maxCost = random.nextInt(3) == 0 ? 100 : 1 + random.nextInt(8);
        growing = random.nextBoolean();
    }

    private static Method[] face(Class<?> of) {
        Method[] methods = Arrays.stream(of.getDeclaredMethods())
            .filter(m -> java.lang.reflect.Modifier.isPublic(m.getModifiers())).toArray(Method[]::new);
        Arrays.sort(methods, Comparator.comparing(Method::getName));
        return methods;
    }

    private static final Method[] OWN = face(DripLines.class);
    private static final Method[] DUE = face(Reference.class);

    private int pick(int limit) {
        return random.nextInt(40) == 0 ? ODD[random.nextInt(ODD.length)] : random.nextInt(limit + 1) - (random.nextInt(20) == 0 ? 1 : 0);
    }

    private int[] arguments(String name, int many) {
        int places = due.count(0);
        int streets = due.count(1);
        switch (name) {
            case "place": return new int[] {pick(4), random.nextInt(15) == 0 ? pick(110) : 1 + random.nextInt(maxCost)};
            case "street": return new int[] {pick(places), pick(places), random.nextInt(25) == 0 ? pick(110) : 1 + random.nextInt(maxCost)};
            case "drop", "lay", "must": return new int[] {pick(streets)};
            case "told": return new int[] {pick(places), pick(3)};
            case "streetTold": return new int[] {pick(streets), pick(5)};
            case "apart": return new int[] {pick(places), pick(places)};
            case "way": return new int[] {pick(places), pick(places), pick(5)};
            case "best": return new int[] {pick(Math.min(40, due.many())), pick(6)};
            case "most": return new int[] {pick(random.nextBoolean() ? 30 : 900)};
            case "wall": return new int[] {pick(Math.max(1, due.walls())), pick(2)};
            case "act": return new int[] {pick(places), pick(4), random.nextBoolean() ? pick(20) : random.nextInt()};
            case "map": return new int[] {pick(5), pick(4) - 1, pick(21)};
            case "cell": return new int[] {pick(5), pick(12), random.nextInt(4) == 0 ? random.nextInt() : pick(9)};
            case "fromMap": return new int[] {pick(5), pick(3), pick(8)};
            case "forge": return new int[] {pick(7), pick(9) - 3, pick(20) - 8};
            default:
                int[] rest = new int[many];
                for (int i = 0; i < many; i++) rest[i] = pick(8);
                return rest;
        }
    }

    private String name() {
        int draw = random.nextInt(10);
        boolean mayGrow = due.count(0) < maxPlaces || due.count(1) < maxStreets;
        if (draw < 2 && (growing || mayGrow)) return BUILD[random.nextInt(BUILD.length)];
        if (draw < 4) return HAND[random.nextInt(HAND.length)];
        return OWN[random.nextInt(OWN.length)].getName();
    }

    private boolean tooMany(String name) {
        return name.equals("place") && due.count(0) >= maxPlaces
            || (name.equals("street") || name.equals("fromMap")) && due.count(1) >= maxStreets;
    }

    private boolean agree(String name, int[] numbers) throws Exception {
        int at = 0;
        while (!OWN[at].getName().equals(name)) at++;
        Object[] arguments = Arrays.stream(numbers).boxed().toArray();
        int got = (int) OWN[at].invoke(own, arguments);
        int want = (int) DUE[at].invoke(due, arguments);
        told.append(name).append(Arrays.toString(numbers)).append(" = ").append(want).append('\n');
        boolean same = got == want && own.status() == due.status();
        if (!same) {
            System.out.println(told);
            System.out.println("the last call answered " + got + " with status " + own.status()
                + ", due is " + want + " with status " + due.status());
        }
        return same;
    }

    private boolean layBest() throws Exception {
        if (due.many() == 0 || !agree("clear", new int[0])) return due.many() == 0;
        int k = random.nextInt(due.many());
        for (int i = 0; due.best(k, i) != -1; i++) {
            if (!agree("lay", new int[] {due.best(k, i)})) return false;
        }
        return agree("tag", new int[0]) && agree("better", new int[0]) && agree("trim", new int[0]);
    }

    // A spanning tree drawn at random, so that trim and better have something to do.
    private boolean laySome() throws Exception {
        if (!agree("clear", new int[0])) return false;
        int streets = due.count(1);
        for (int tries = 0; tries < 2 * streets; tries++) {
            int street = random.nextInt(streets);
            if (due.streetTold(street, 3) == 1 && due.streetTold(street, 4) == 0) {
                if (!agree("lay", new int[] {street})) return false;
                if (due.why() == 1 && !agree("lay", new int[] {street})) return false;
            }
        }
        return agree("why", new int[0]) && agree("tag", new int[0]) && agree("better", new int[0])
            && agree("better", new int[0]) && agree("trim", new int[0]) && agree("tag", new int[0]);
    }

    private boolean start() throws Exception {
        int places = Math.min(10, maxPlaces);
        for (int i = 0; i < places; i++) {
            if (!agree("place", new int[] {random.nextInt(5), 1 + random.nextInt(maxCost)})) return false;
        }
        for (int i = 0; i < Math.min(16, maxStreets) - 2; i++) {
            int[] street = {random.nextInt(places), random.nextInt(places), 1 + random.nextInt(maxCost)};
            if (!agree("street", street)) return false;
        }
        return true;
    }

    private boolean run(int calls) throws Exception {
        if (random.nextInt(3) != 0 && !start()) return false;
        for (int i = 0; i < calls; i++) {
            String name = name();
            if (tooMany(name)) continue;
            int at = 0;
            while (!OWN[at].getName().equals(name)) at++;
            if (!agree(name, arguments(name, OWN[at].getParameterCount()))) return false;
            if (random.nextInt(12) == 0 && !(random.nextBoolean() ? laySome() : layBest())) return false;
        }
        return true;
    }

    public static void main(String[] args) throws Exception {
        long first = args.length > 0 ? Long.parseLong(args[0]) : 1;
        long last = args.length > 1 ? Long.parseLong(args[1]) : 600;
        int wrong = 0;
        for (long seed = first; seed <= last && wrong < 3; seed++) {
            RandomRunsTest test = new RandomRunsTest(seed);
            if (!test.run(seed % 40 == 0 ? 40 : 120)) {
                System.out.println("run " + seed + " is not as due");
                wrong++;
            }
        }
        System.out.println(wrong == 0 ? "random runs: all as due" : "random runs: wrong answers");
        if (wrong != 0) System.exit(1);
    }
}
