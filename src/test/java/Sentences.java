import java.nio.file.Files;
import java.nio.file.Path;
import java.util.ArrayList;
import java.util.Arrays;
import java.util.HashMap;
import java.util.HashSet;
import java.util.List;
import java.util.Map;
import java.util.Set;
import java.util.TreeMap;
import java.util.regex.Matcher;
import java.util.regex.Pattern;

/**
 * Tests of single sentences of the document. sentence(..) names the promise and quotes the words; the checks
 * after it are the test of these words. Scenes and calls are texts, as Calls reads them: each check makes new
 * objects and runs the scene on them, so that no object is used for more than 512 calls.
 */
abstract class Sentences {
    static final int NO = -1000000, MIN = Integer.MIN_VALUE, MAX = Integer.MAX_VALUE;

    static final String NEW = "";
    static final String TEN_PLACES = "place(0, 0) ".repeat(10);
    static final String SIXTEEN_STREETS = TEN_PLACES + "street(0, 9, 5) ".repeat(16);
    /** The well 0, a wish of 7, a gate of 3 and the taps 1 and 5; a hand's tree, a trace, maps of each sort. */
    static final String RICH = "place(3, 0) place(1, 0) place(2, 7) place(4, 3) place(0, 0) place(1, 0) "
        + "street(0, 1, 4) street(1, 2, 5) street(2, 5, 6) street(0, 3, 2) "
        + "street(3, 5, 2) street(4, 5, 3) street(5, 4, 3) street(1, 5, 9) drop(7) "
        + "lay(0) lay(1) lay(2) lay(5) act(3, 3, 2) "
        + "map(0, 0, 5) cell(0, 0, 9) cell(0, 1, 4) cell(0, 2, 1) cell(0, 3, 100) cell(0, 4, -2) "
        + "map(1, 1, 4) cell(1, 0, 2) cell(1, 1, 3) cell(1, 2, 50) cell(1, 3, -1) "
        + "map(2, 2, 3) cell(2, 0, 5) cell(2, 1, 0) cell(2, 2, 1) map(4, 1, 0) ";
    /** The same with all places and streets that there is room for. */
    static final String FULL = RICH + "place(1, 0) place(2, 100) place(4, 100) place(0, 0) "
        + "street(6, 0, 1) street(7, 6, 1) street(8, 7, 100) street(9, 8, 1) "
        + "street(9, 0, 2) street(6, 7, 1) street(2, 9, 3) street(9, 4, 1) ";

    private static final Map<String, int[]> SEEN = new HashMap<>();
    private static final Set<String> PROVED = new HashSet<>();
    private static final List<String> VIEWS = List.of(things(), results(), takenBack(), numbersOfMaps(), streetsOfMaps(), sizesOfMaps());
    // A refused call that is told from all others by its status.
    private static final String STATUS_13 = "!forge(1, -1, 0) ";

    private static final Quotes QUOTES = new Quotes();
    private static String now = "no sentence";
    private static int wrong = 0;
    private static int checks = 0;

    /** From here on the checks are the test of these words. */
    static void sentence(int promise, String words) {
        now = "promise " + promise + " \"" + words + "\"";
        String fault = QUOTES.add(promise, words);
        if (fault != null) fail(fault);
    }

    /** Prints what lacks, and answers how much is wrong. */
    static int wrongAtEnd() {
        now = "at the end";
        for (String lacking : QUOTES.withoutTest()) fail(lacking);
        System.out.println("boundaries: " + QUOTES.size() + " sentences, " + checks + " checks, "
            + (wrong == 0 ? "all as due" : wrong + " wrong"));
        return wrong;
    }

    private static void fail(String what) {
        wrong++;
        System.out.println(now + ": " + what);
    }

    private static void due(String scene, String call, int got, int want) {
        checks++;
        if (got != want) fail(call + " answered " + got + ", due is " + want + ", after " + brief(scene));
    }

    private static String brief(String scene) {
        int size = scene.length();
        if (size == 0) return "nothing";
        return size < 1500 ? scene : scene.substring(0, 300) + ".. " + scene.substring(size - 600);
    }

    /** The call is refused with this status and changes nothing else. */
    static void refused(String scene, String call, int status) {
        DripLines x = made(scene);
        run(x, "forge(1, 0, 0)");
        due(scene, call, run(x, call), -1);
        due(scene, "status() after " + call, x.status(), status);
        nothingChanged(scene, call);
    }

    /** The call is done with this answer, whatever the status was. */
    static void done(String scene, String call, int answer) {
        DripLines x = made(scene + STATUS_13);
        due(scene, call, run(x, call), answer);
        due(scene, "status() after " + call, x.status(), 0);
    }

    /** The same, and nothing but the status changes. */
    static void doneAlone(String scene, String call, int answer) {
        done(scene, call, answer);
        nothingChanged(scene, call);
    }

    /** The question has this answer and changes nothing, nor the status. */
    static void answers(String scene, String question, int answer) {
        DripLines x = made(scene + STATUS_13);
        due(scene, question, run(x, question), answer);
        due(scene, "status() after " + question, x.status(), 13);
        due(scene, question + ", asked after each call too,", askedAlways(scene, question), answer);
        nothingChanged(scene, question);
    }

    /** What was worked out for the net of an earlier call must not show later. */
    private static int askedAlways(String scene, String question) {
        DripLines x = new DripLines();
        for (Calls.Call call : Calls.read(scene)) {
            Calls.run(x, call);
            x.many();
            x.walls();
            x.span();
        }
        return run(x, question);
    }

    /** The scene leaves this status, and asking for it does not change it. */
    static void status(String scene, int status) {
        DripLines x = made(scene);
        due(scene, "status()", x.status(), status);
        due(scene, "status() once more", x.status(), status);
    }

    static void equal(String what, int got, int want) {
        due("", what, got, want);
    }

    /** The call is the object's 512th and has this answer. */
    static void lastAnswers(String scene, String call, int answer) {
        String fill = "count(0) ".repeat(511 - Calls.read(scene).size());
        due(scene, "as the 512th, " + call, run(made(fill + scene), call), answer);
    }

    /** The calls, over and over and far behind the 512th, throw nothing. */
    static void neverThrows(String calls, int times) {
        DripLines x = new DripLines();
        for (int i = 0; i < times; i++) {
            for (Calls.Call call : Calls.read(calls)) Calls.run(x, call);
        }
        checks++;
    }

    /** The question with 0, 1 and so on for its % has these answers, and -1 before and behind them. */
    static void row(String scene, String question, int... answers) {
        for (int i = -1; i <= answers.length; i++) {
            boolean inside = i >= 0 && i < answers.length;
            answers(scene, question.replace("%", String.valueOf(i)), inside ? answers[i] : -1);
        }
        for (int i : new int[] {MIN, MAX}) answers(scene, question.replace("%", String.valueOf(i)), -1);
    }

    /** Just these streets are in the hand's tree. */
    static void hand(String scene, int... streets) {
        DripLines x = made(scene);
        due(scene, "count(4)", x.count(4), streets.length);
        for (int s = 0; s < 16; s++) {
            int street = s;
            boolean in = Arrays.stream(streets).anyMatch(one -> one == street);
            int want = s >= x.count(1) ? -1 : in ? 1 : 0;
            due(scene, "streetTold(" + s + ", 4)", x.streetTold(s, 4), want);
        }
    }

    /** Both scenes leave the same things behind, the status aside. */
    static void same(String scene, String other) {
        for (String view : VIEWS) compare(scene, "", view, seen(other, view));
    }

    /** Numbers that are none of 0 .. limit - 1. */
    static int[] outside(int limit) {
        return new int[] {MIN, MIN + 1, -2, -1, limit, limit + 1, MAX - 1, MAX};
    }

    private static void nothingChanged(String scene, String call) {
        for (String view : VIEWS) compare(scene, call, view, seen(scene, view));
    }

    private static void compare(String scene, String call, String view, int[] before) {
        DripLines x = made(scene);
        if (!call.isEmpty()) run(x, call);
        List<Calls.Call> calls = Calls.read(view);
        checks++;
        for (int i = 0; i < before.length; i++) {
            int got = Calls.run(x, calls.get(i));
            if (got != before[i]) {
                fail(call + " changed something: " + calls.get(i).text() + ", the call " + i + " after it, answered " + got
                    + ", due is " + before[i] + ", after " + brief(scene));
                return;
            }
        }
    }

    private static int[] seen(String scene, String view) {
        return SEEN.computeIfAbsent(scene + "; " + view, key -> {
            DripLines x = made(scene);
            return Calls.read(view).stream().mapToInt(call -> Calls.run(x, call)).toArray();
        });
    }

    private static DripLines made(String scene) {
        if (PROVED.add(scene)) prove(scene);
        DripLines x = new DripLines();
        for (Calls.Call call : Calls.read(scene)) Calls.run(x, call);
        return x;
    }

    /** What the scene does is done, but for what is marked. */
    private static void prove(String scene) {
        DripLines x = new DripLines();
        for (Calls.Call call : Calls.read(scene)) {
            Calls.run(x, call);
            boolean refused = x.status() != 0;
            if (!call.isQuestion() && call.refused() != refused) fail(call.text() + " has status " + x.status() + " in " + brief(scene));
        }
    }

    private static int run(DripLines x, String call) {
        return Calls.run(x, Calls.read(call).get(0));
    }

    // The views ask, or try, each part of what an object holds; each stays under 300 calls.

    private static String things() {
        StringBuilder view = new StringBuilder("why() tag() ");
        for (int what = 0; what < 7; what++) view.append("count(" + what + ") ");
        for (int i = 0; i < 30; i++) view.append("told(" + i / 3 + ", " + i % 3 + ") ");
        for (int i = 0; i < 80; i++) view.append("streetTold(" + i / 5 + ", " + i % 5 + ") ");
        for (int i = 0; i < 10; i++) view.append("trace(" + i + ") ");
        return view.toString();
    }

    private static String results() {
        StringBuilder view = new StringBuilder("span() least() many() walls() bound() ");
        for (int s = 0; s < 16; s++) view.append("must(" + s + ") ");
        for (int i = 0; i < 40; i++) view.append("best(" + i / 10 + ", " + i % 10 + ") ");
        for (int i = 0; i < 40; i++) view.append("wall(" + i / 2 + ", " + i % 2 + ") ");
        for (int sum = 0; sum < 40; sum += 2) view.append("most(" + sum + ") ");
        for (int i = 0; i < 100; i++) view.append("apart(" + i / 10 + ", " + i % 10 + ") ");
        return view.toString();
    }

    private static String takenBack() {
        return "undo() status() count(0) count(1) count(2) count(3) count(4) count(6) told(0, 2) told(5, 2) ".repeat(11);
    }

    private static String numbersOfMaps() {
        StringBuilder view = new StringBuilder();
        for (int i = 0; i < 105; i++) view.append("forge(2, " + i % 21 + ", " + i / 21 + ") status() ");
        for (int i = 0; i < 20; i++) view.append("forge(3, " + i % 4 + ", " + i / 4 + ") status() ");
        return view.toString();
    }

    // Longs, and bytes behind the third, are seen by the streets that they tell alone.
    private static String streetsOfMaps() {
        StringBuilder view = new StringBuilder("undo() undo() undo() undo() ");
        for (int i = 0; i < 60; i++) view.append("fromMap(" + i / 12 + ", " + i % 3 + ", " + i / 3 % 4 + ") status() ");
        for (int i = 0; i < 48; i++) view.append("streetTold(" + i / 3 + ", " + i % 3 + ") ");
        return view.toString();
    }

    private static String sizesOfMaps() {
        StringBuilder view = new StringBuilder();
        for (int i = 0; i < 105; i++) view.append("cell(" + i / 21 + ", " + i % 21 + ", 1) status() ");
        return view.toString();
    }

    /** The document's words that have a test. */
    private static final class Quotes {
        private final Map<Integer, List<String>> quoted = new TreeMap<>();
        private final Map<Integer, String> promises = new TreeMap<>();
        private String terms = "";
        private String before = "";
        private final List<String> all = new ArrayList<>();

        Quotes() {
            Path document = Path.of("../shared/DOC.md");
            // Without the document the tests still hold; just the quotes can't be looked up then.
            if (Files.exists(document)) split(document);
        }

        private void split(Path document) {
            try {
                String[] sections = Files.readString(document).split("\n## ");
                for (String section : sections) {
                    String text = section.replaceAll("\\s+", " ").trim();
                    Matcher head = Pattern.compile("Promise (\\d+): \\S[^`]*`[^`]*`: (.*)").matcher(text);
                    if (head.matches()) promises.put(Integer.valueOf(head.group(1)), head.group(2));
                    if (text.startsWith("What it is ")) before = text;
                    if (text.startsWith("Terms ")) terms = text.substring("Terms ".length());
                }
            } catch (java.io.IOException unread) {
                throw new IllegalStateException(unread);
            }
        }

        int size() { return all.size(); }

        /** null, or why it is no quote. */
        String add(int promise, String words) {
            all.add(words);
            quoted.computeIfAbsent(promise, key -> new ArrayList<>()).add(words);
            boolean found = promises.getOrDefault(promise, "").contains(words) || terms.contains(words)
                || before.contains(words);
            return promises.isEmpty() || found ? null : "the document does not say so";
        }

        /** What the promises and the terms say that no test quotes. */
        List<String> withoutTest() {
            List<String> lacking = new ArrayList<>();
            for (int promise = 1; promise <= 32; promise++) {
                List<String> own = quoted.getOrDefault(promise, List.of());
                String left = unquoted(promises.getOrDefault(promise, ""), own);
                if (own.isEmpty() || !left.isBlank()) lacking.add("promise " + promise + " has no test of: " + left.trim());
            }
            // The terms are quoted in pieces, so that the signs between these are left over.
            String left = unquoted(terms.replaceAll("```(text)?", ""), all);
            if (left.matches(".*\\w.*")) lacking.add("the terms have no test of: " + left.replaceAll(" +", " "));
            return lacking;
        }

        private static String unquoted(String text, List<String> quotes) {
            StringBuilder left = new StringBuilder(text);
            for (String words : quotes) {
                int at = text.indexOf(words);
                for (int i = at; at >= 0 && i < at + words.length(); i++) left.setCharAt(i, ' ');
            }
            return left.toString();
        }
    }
}
