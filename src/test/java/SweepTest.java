import java.util.List;

/** Each call with all numbers at, before and behind a limit, in an empty, a rich and a full net: as Reference answers. */
public final class SweepTest {
    private static final int MIN = Integer.MIN_VALUE, MAX = Integer.MAX_VALUE;
    private static final int[] EDGES = {MIN, MIN + 1, -101, -100, -2, -1, 0, 1, 2, 3, 4, 5, 6, 7, 8, 9, 10, 14, 15, 16, 17,
        19, 20, 21, 99, 100, 101, MAX - 2, MAX - 1, MAX};
    private static final String NO_TREE = "place(1, 0) place(1, 0) place(2, 5) street(0, 2, 1) street(2, 0, 1) lay(1) ";
    private static final String[] SCENES = {Sentences.NEW, NO_TREE, Sentences.RICH, Sentences.FULL};
    private static final int LIFE = 512;

    private final String scene;
    private DripLines own;
    private Reference due;
    private int calls;
    private static int wrong = 0;
    private static int asked = 0;

    private SweepTest(String scene) {
        this.scene = scene;
        makeOwn();
        makeDue();
    }

    private void makeOwn() {
        List<Calls.Call> built = Calls.read(scene);
        own = new DripLines();
        for (Calls.Call call : built) Calls.run(own, call);
        calls = built.size();
    }

    private void makeDue() {
        due = new Reference();
        for (Calls.Call call : Calls.read(scene)) Calls.run(due, call);
    }

    private void ask(Calls.Call call) {
        if (calls + 2 > LIFE) makeOwn();
        calls += 2;
        asked++;
        int got = Calls.run(own, call);
        int want = Calls.run(due, call);
        if (got != want || own.status() != due.status()) {
            wrong++;
            System.out.println(call.text() + " answered " + got + " with status " + own.status() + ", due is " + want
                + " with status " + due.status() + ", after " + scene);
        }
        // What was refused, or asked, has changed nothing: the same objects go on.
        boolean changed = !call.isQuestion() && due.status() == 0;
        if (changed || wrong > 0) {
            makeOwn();
            makeDue();
        }
    }

    private void sweep(String name, int arguments) {
        int combinations = 1;
        for (int i = 0; i < arguments; i++) combinations *= EDGES.length;
        for (int c = 0; c < combinations && wrong < 20; c++) {
            Object[] numbers = new Object[arguments];
            int rest = c;
            for (int i = 0; i < arguments; i++) {
                numbers[i] = EDGES[rest % EDGES.length];
                rest /= EDGES.length;
            }
            ask(new Calls.Call(name, numbers, false));
        }
    }

    public static void main(String[] args) {
        Watch.over("sweep");
        for (String scene : SCENES) {
            for (var method : Calls.face(DripLines.class).entrySet()) {
                new SweepTest(scene).sweep(method.getKey(), method.getValue().getParameterCount());
            }
        }
        System.out.println("sweep: " + asked + " calls, " + (wrong == 0 ? "all as due" : wrong + " wrong"));
        if (wrong != 0) System.exit(1);
    }
}
