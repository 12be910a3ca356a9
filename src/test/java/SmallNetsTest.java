import java.util.ArrayList;
import java.util.List;

/**
 * Every net of up to three places, of all kinds, with up to three streets, each at 1 or 2: all questions, and
 * trim and better for every hand's tree, as Reference answers.
 */
public final class SmallNetsTest {
    private static final String[] PLACES = {"place(0, 0)", "place(1, 0)", "place(2, 1)", "place(2, 3)", "place(3, 0)",
        "place(4, 1)", "place(4, 2)"};
    private static final String[] HANDLING = {"trim()", "better()"};
    private static final int MAX_PLACES = 3, MAX_STREETS = 3, MAX_COST = 2;

    private static int nets = 0;
    private static int asked = 0;
    private static int wrong = 0;

    private final String scene;
    private final DripLines own = new DripLines();
    private final Reference due = new Reference();

    private SmallNetsTest(String places, String streets) {
        scene = places + streets;
        askAll(Calls.read(places));
        askAll(Calls.read(streets));
        nets++;
    }

    // With status() these are two calls; all that are asked of a net stay under 512.
    private void ask(Calls.Call call) {
        asked++;
        int got = Calls.run(own, call);
        int want = Calls.run(due, call);
        if (got != want || own.status() != due.status()) {
            wrong++;
            System.out.println(call.text() + " answered " + got + " with status " + own.status() + ", due is " + want
                + " with status " + due.status() + ", after " + scene);
        }
    }

    private void askAll(List<Calls.Call> calls) {
        for (Calls.Call call : calls) ask(call);
    }

    /** The questions about a net of so many places and streets. */
    private static List<Calls.Call> questions(int places, int streets) {
        StringBuilder text = new StringBuilder("span() least() many() walls() bound() ");
        for (int s = 0; s < streets; s++) text.append("must(" + s + ") ");
        for (int sum = -1; sum <= 9; sum++) text.append("most(" + sum + ") ");
        for (int i = 0; i < 8; i++) text.append("wall(" + i / 2 + ", " + i % 2 + ") ");
        for (int i = 0; i < 16; i++) text.append("best(" + i / 4 + ", " + i % 4 + ") ");
        for (int a = 0; a < places; a++) {
            for (int b = 0; b < places; b++) {
                text.append("apart(" + a + ", " + b + ") ");
                for (int i = 1; i <= places; i++) text.append("way(" + a + ", " + b + ", " + i + ") ");
            }
        }
        return Calls.read(text.toString());
    }

    /** Every hand's tree, trimmed or made better, with what is left of it. */
    private static List<Calls.Call> hands(int streets) {
        StringBuilder text = new StringBuilder();
        for (int hand = 0; hand < 1 << streets; hand++) {
            for (String handling : HANDLING) {
                text.append("clear() ");
                for (int s = 0; s < streets; s++) if ((hand >> s & 1) == 1) text.append("lay(" + s + ") ");
                text.append("why() tag() " + handling + " tag() ");
                for (int s = 0; s < streets; s++) text.append("streetTold(" + s + ", 4) ");
            }
        }
        return Calls.read(text.toString());
    }

    private static List<String> allPlaces(int many) {
        List<String> rows = new ArrayList<>(List.of(""));
        for (int p = 0; p < many; p++) {
            List<String> longer = new ArrayList<>();
            for (String row : rows) for (String place : PLACES) longer.add(row + place + " ");
            rows = longer;
        }
        // A second well is refused; such a net is one of fewer places.
        rows.removeIf(row -> row.split("place.3").length > 2);
        return rows;
    }

    private static List<String> allStreets(int places, int many) {
        List<String> rows = new ArrayList<>(List.of(""));
        for (int s = 0; s < many; s++) {
            List<String> longer = new ArrayList<>();
            for (String row : rows) {
                for (int a = 0; a < places; a++) {
                    for (int b = 0; b < a; b++) {
                        for (int cost = 1; cost <= MAX_COST; cost++) {
                            longer.add(row + "street(" + a + ", " + b + ", " + cost + ") ");
                        }
                    }
                }
            }
            rows = longer;
        }
        return rows;
    }

    private static void netsOf(int places, int streets) {
        List<Calls.Call> questions = questions(places, streets);
        List<Calls.Call> hands = hands(streets);
        List<String> rowsOfStreets = allStreets(places, streets);
        for (String rowOfPlaces : allPlaces(places)) {
            for (String rowOfStreets : rowsOfStreets) {
                if (wrong > 20) return;
                SmallNetsTest net = new SmallNetsTest(rowOfPlaces, rowOfStreets);
                net.askAll(questions);
                net.askAll(hands);
            }
        }
    }

    public static void main(String[] args) {
        Watch.over("small nets");
        for (int places = 0; places <= MAX_PLACES; places++) {
            for (int streets = 0; streets <= MAX_STREETS; streets++) netsOf(places, streets);
        }
        System.out.println("small nets: " + nets + " nets, " + asked + " calls, " + (wrong == 0 ? "all as due" : wrong + " wrong"));
        if (wrong != 0) System.exit(1);
    }
}
