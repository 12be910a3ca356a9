/** Promises 9 to 16: ways, the span, the best trees and what wishes are worth. */
final class BoundariesOfTrees extends Sentences {
    private static final String TAPLESS = "place(0, 0) place(2, 5) place(4, 5) street(0, 1, 1) street(1, 2, 1) ";
    private static final String ONE_TAP = "place(0, 0) place(1, 0) ";
    private static final String ONE_WELL = "place(3, 0) ";
    private static final String TWO_APART = "place(1, 0) place(1, 0) place(2, 5) street(0, 2, 1) ";
    /** Two gates of 5 between 0 and 3, and two streets that join these two at once; 4 stands alone. */
    private static final String GATES = "place(0, 0) place(4, 5) place(4, 5) place(0, 0) place(0, 0) "
        + "street(0, 1, 1) street(1, 3, 1) street(0, 2, 2) street(2, 3, 1) street(0, 3, 9) street(3, 0, 8) ";
    /** Three taps each 4 from each other, and place 3 that is 2 from each. */
    private static final String STAR = "place(3, 0) place(1, 0) place(1, 0) place(0, 0) street(0, 1, 4) street(1, 2, 4) "
        + "street(0, 2, 4) street(0, 3, 2) street(1, 3, 2) street(2, 3, 2) ";
    private static final String TRIANGLE = "place(1, 0) place(1, 0) place(1, 0) street(0, 1, 4) street(1, 2, 4) street(2, 0, 4) ";

    private BoundariesOfTrees() { }

    static void all() {
        apart();
        wayRule();
        way();
        span();
        least();
        priceTag();
        many();
        best();
        must();
        most();
    }

    /** Ten places in a row, two taps at its ends and such ones between, joined at 100 each. */
    private static String line(String between) {
        StringBuilder scene = new StringBuilder("place(1, 0) " + between.repeat(8) + "place(3, 0) ");
        for (int p = 0; p < 9; p++) scene.append("street(" + p + ", " + (p + 1) + ", 100) ");
        return scene.toString();
    }

    /** A tap and nine wishes of 5, each at a street of 5, seven of them at two. */
    private static String nineWishes() {
        StringBuilder scene = new StringBuilder("place(1, 0) " + "place(2, 5) ".repeat(9));
        for (int s = 0; s < 16; s++) scene.append("street(0, " + (1 + s % 9) + ", 5) ");
        return scene.toString();
    }

    private static void apart() {
        sentence(9, "The sum of THE WAY from a to b (0 of one PLACE).");
        for (int p = 0; p < 5; p++) answers(GATES, "apart(" + p + ", " + p + ")", 0);
        answers(GATES, "apart(0, 3)", 7);
        answers(GATES, "apart(3, 0)", 7);
        answers(line("place(4, 100) "), "apart(0, 9)", 1700);
        answers(line("place(0, 0) "), "apart(9, 0)", 900);
        answers(ONE_WELL, "apart(0, 0)", 0);

        sentence(9, "NO: there is none, or no such PLACES.");
        answers(GATES, "apart(0, 4)", NO);
        answers(GATES, "apart(4, 0)", NO);
        answers(NEW, "apart(0, 0)", NO);
        answers("place(0, 0) place(0, 0) street(0, 1, 3) drop(0) ", "apart(0, 1)", NO);
        for (int p : outside(5)) {
            answers(GATES, "apart(" + p + ", 0)", NO);
            answers(GATES, "apart(0, " + p + ")", NO);
            answers(GATES, "apart(" + p + ", " + p + ")", NO);
        }
        for (int p : outside(10)) answers(FULL, "apart(" + p + ", 9)", NO);
    }

    private static void wayRule() {
        sentence(9, "of the least sum of COSTS and of the PRICES of GATES strictly between");
        answers(GATES, "apart(0, 1)", 1);
        answers(GATES, "apart(1, 3)", 1);
        answers(GATES, "apart(1, 2)", 2);
        String detour = "place(0, 0) place(4, 5) place(0, 0) street(0, 1, 1) street(1, 2, 1) ";
        answers(detour, "apart(0, 2)", 7);
        answers(detour + "street(0, 2, 6) ", "apart(0, 2)", 6);
        answers(detour + "street(0, 2, 8) ", "apart(0, 2)", 7);
        answers("place(0, 0) place(2, 5) place(0, 0) street(0, 1, 1) street(1, 2, 1) ", "apart(0, 2)", 2);

        sentence(9, "(of those that join the same two the one of the least COST)");
        String twice = "place(0, 0) place(0, 0) street(0, 1, 9) street(1, 0, 3) street(0, 1, 4) ";
        answers(twice, "apart(0, 1)", 3);
        answers(twice, "apart(1, 0)", 3);
        answers(twice + "drop(1) ", "apart(0, 1)", 4);
        answers(twice + "drop(1) drop(2) ", "apart(1, 0)", 9);
        answers(twice + "drop(1) drop(2) drop(0) ", "apart(0, 1)", NO);
        answers(twice + "drop(1) undo() ", "apart(0, 1)", 3);

        sentence(9, "both ways");
        answers("place(0, 0) place(0, 0) street(0, 1, 3) ", "apart(0, 1)", 3);
        answers("place(0, 0) place(0, 0) street(0, 1, 3) ", "apart(1, 0)", 3);
        answers("place(0, 0) place(0, 0) place(0, 0) street(1, 0, 3) street(1, 2, 3) ", "apart(0, 2)", 6);

        sentence(10, "a row of PLACES, each once, with STREETS from one to the next one");
        // Even the dearest street is better than going round, and no place comes twice.
        row("place(0, 0) place(0, 0) place(0, 0) street(0, 1, 1) street(1, 2, 100) street(1, 0, 1) ", "way(0, 2, %)", 0, 1, 2);
        row("place(0, 0) place(0, 0) street(0, 1, 1) street(1, 0, 1) ", "way(1, 0, %)", 1, 0);

        sentence(10, "of those of the same sum the one whose second PLACE has the lowest number; then the third one; and so on.");
        String two = "place(0, 0) place(0, 0) place(0, 0) place(0, 0) street(0, 2, 1) street(2, 3, 1) street(0, 1, 1) street(1, 3, 1) ";
        row(two, "way(0, 3, %)", 0, 1, 3);
        row(two, "way(3, 0, %)", 3, 1, 0);
        row(two + "street(0, 3, 2) ", "way(0, 3, %)", 0, 1, 3);
        row(two + "street(0, 3, 1) ", "way(0, 3, %)", 0, 3);
        String late = "place(0, 0) place(0, 0) place(0, 0) place(0, 0) place(0, 0) place(0, 0) street(0, 1, 1) "
            + "street(1, 4, 2) street(4, 5, 1) street(1, 3, 1) street(3, 5, 2) street(1, 2, 1) street(2, 3, 1) ";
        row(late, "way(0, 5, %)", 0, 1, 3, 5);
        row(late + "street(2, 5, 2) ", "way(0, 5, %)", 0, 1, 2, 5);
        // The fourth place decides, and a row of more places may stand ahead.
        row(late + "street(2, 4, 1) drop(1) ", "way(0, 5, %)", 0, 1, 2, 4, 5);
        row(late + "street(0, 5, 4) ", "way(0, 5, %)", 0, 1, 3, 5);
    }

    private static void way() {
        sentence(10, "The i-th PLACE of THE WAY (0: a).");
        row(GATES, "way(0, 3, %)", 0, 1, 3);
        for (int p = 0; p < 5; p++) row(GATES, "way(" + p + ", " + p + ", %)", p);
        row(line("place(4, 100) "), "way(0, 9, %)", 0, 1, 2, 3, 4, 5, 6, 7, 8, 9);
        row(line("place(4, 100) "), "way(9, 0, %)", 9, 8, 7, 6, 5, 4, 3, 2, 1, 0);

        sentence(10, "-1: none such.");
        for (int i : new int[] {MIN, -1, 3, 4, 5, 9, 10, MAX}) answers(GATES, "way(0, 3, " + i + ")", -1);
        answers(GATES, "way(0, 4, 0)", -1);
        answers(GATES, "way(4, 0, 0)", -1);
        answers(NEW, "way(0, 0, 0)", -1);
        for (int p : outside(5)) {
            answers(GATES, "way(" + p + ", 0, 0)", -1);
            answers(GATES, "way(0, " + p + ", 0)", -1);
            answers(GATES, "way(" + p + ", " + p + ", 0)", -1);
        }
        answers(line("place(0, 0) "), "way(0, 9, 10)", -1);
    }

    private static void span() {
        sentence(11, "THE SPAN.");
        answers(STAR, "span()", 8);
        answers(ONE_TAP, "span()", 0);
        answers(ONE_WELL, "span()", 0);
        answers(RICH, "span()", 11);
        answers("place(1, 0) place(1, 0) street(0, 1, 9) street(1, 0, 8) ", "span()", 8);

        sentence(11, "THE SPAN is the least sum of such sums by which all TAPS hang together, two joined by each.");
        // Each of the two ways over the gate pays its price.
        answers("place(1, 0) place(1, 0) place(1, 0) place(4, 5) street(0, 3, 2) street(1, 3, 2) street(3, 2, 2) ", "span()", 18);
        answers(line("place(1, 0) "), "span()", 900);
        answers(line("place(4, 100) "), "span()", 1700);
        answers("place(1, 0) place(1, 0) place(1, 0) place(1, 0) street(0, 1, 7) street(1, 2, 1) street(2, 3, 7) street(3, 0, 3) ", "span()", 11);
        answers("place(1, 0) place(1, 0) place(2, 100) street(0, 2, 4) street(2, 1, 4) street(0, 1, 9) ", "span()", 8);

        sentence(11, "NO: TAPS that nothing joins, or no TAP.");
        answers(NEW, "span()", NO);
        answers(TAPLESS, "span()", NO);
        answers(TWO_APART, "span()", NO);
        answers(TWO_APART + "street(1, 2, 100) ", "span()", 101);
        answers(TWO_APART + "street(1, 2, 100) drop(1) ", "span()", NO);
        answers(STAR + "place(1, 0) ", "span()", NO);
        answers(STAR + "place(0, 0) ", "span()", 8);
        answers(ONE_TAP + "undo() ", "span()", NO);
    }

    private static void least() {
        sentence(12, "LEAST.");
        answers(STAR, "least()", 6);
        answers(RICH, "least()", 8);
        answers(line("place(4, 100) "), "least()", 1700);
        answers(line("place(2, 100) "), "least()", 100);
        answers(line("place(2, 100) ").replace(", 100) street", ", 1) street").replace("8, 9, 100)", "8, 9, 1)"), "least()", -791);

        sentence(12, "NO: there is no TREE.");
        answers(NEW, "least()", NO);
        answers(TAPLESS, "least()", NO);
        answers(TWO_APART, "least()", NO);
        answers(STAR + "place(1, 0) ", "least()", NO);
        answers(STAR + "place(1, 0) undo() ", "least()", 6);
        answers("place(1, 0) place(1, 0) street(0, 1, 4) drop(0) ", "least()", NO);
        answers("place(1, 0) place(1, 0) street(0, 1, 4) drop(0) undo() ", "least()", 4);

        sentence(12, "(of the empty set: the only TAP, if there is just one; else none)");
        answers(ONE_TAP, "least()", 0);
        answers(ONE_WELL, "least()", 0);
        answers(ONE_TAP + "place(2, 5) street(0, 2, 1) ", "least()", 0);
        answers("place(1, 0) place(1, 0) ", "least()", NO);
        answers(ONE_TAP + "place(3, 0) ", "least()", NO);

        sentence(12, "has all TAPS, and one at least, among its PLACES");
        answers(TAPLESS + "place(1, 0) ", "least()", 0);
        answers(TAPLESS + "place(1, 0) street(3, 1, 4) ", "least()", -1);
        answers(TAPLESS + "place(1, 0) street(3, 1, 4) place(1, 0) ", "least()", NO);
        answers(TAPLESS + "place(1, 0) street(3, 1, 4) place(1, 0) street(4, 2, 1) ", "least()", 6);
    }

    private static void priceTag() {
        sentence(12, "Its PRICE TAG is the COSTS of its STREETS and the PRICES of GATES among its PLACES, less the WORTHS of WISHES among them.");
        // A wish of 5 at a street of 4, 5, 6: it is worth 1, nothing, less than nothing.
        answers("place(1, 0) place(2, 5) street(0, 1, 4) ", "least()", -1);
        answers("place(1, 0) place(2, 5) street(0, 1, 5) ", "least()", 0);
        answers("place(1, 0) place(2, 5) street(0, 1, 6) ", "least()", 0);
        // A gate as the end of a tree pays as well as one between.
        answers("place(1, 0) place(4, 5) place(1, 0) street(0, 1, 2) street(1, 2, 3) ", "least()", 10);
        answers("place(1, 0) place(4, 5) place(1, 0) street(0, 1, 2) street(1, 2, 3) street(0, 2, 9) ", "least()", 9);
        answers("place(1, 0) place(4, 5) place(2, 20) street(0, 1, 2) street(1, 2, 3) ", "least()", -10);
        answers("place(1, 0) place(2, 100) street(0, 1, 1) ", "least()", -99);
        answers("place(1, 0) place(4, 100) place(3, 0) street(0, 1, 100) street(1, 2, 100) ", "least()", 300);
    }

    private static void many() {
        sentence(13, "How many BEST TREES there are.");
        answers(NEW, "many()", 0);
        answers(TAPLESS, "many()", 0);
        answers(TWO_APART, "many()", 0);
        answers(ONE_TAP, "many()", 1);
        answers(ONE_WELL, "many()", 1);
        answers(STAR, "many()", 1);
        answers(STAR + "drop(3) ", "many()", 5);
        answers(TRIANGLE, "many()", 3);
        answers(TRIANGLE + "drop(0) ", "many()", 1);
        answers(TRIANGLE + "drop(0) drop(1) ", "many()", 0);
        answers(TRIANGLE + "drop(0) drop(1) undo() undo() ", "many()", 3);
        answers("place(1, 0) place(2, 5) street(0, 1, 4) ", "many()", 1);
        answers("place(1, 0) place(2, 5) street(0, 1, 5) ", "many()", 2);
        answers("place(1, 0) place(2, 5) street(0, 1, 6) ", "many()", 1);
        answers("place(1, 0) place(1, 0) " + "street(0, 1, 4) ".repeat(16), "many()", 16);
        for (int n = 0; n <= 9; n++) answers(wishes(n), "many()", 1 << n);
        answers(nineWishes(), "many()", 8748);
    }

    /** A tap and n wishes of 5, each at a street of 5: each of them may be left out. */
    private static String wishes(int n) {
        StringBuilder scene = new StringBuilder("place(1, 0) ");
        for (int i = 1; i <= n; i++) scene.append("place(2, 5) street(0, " + i + ", 5) ");
        return scene.toString();
    }

    private static void best() {
        sentence(14, "The i-th STREET (by numbers, from 0) of the k-th of THE BEST TREES (from 0).");
        row(STAR, "best(0, %)", 3, 4, 5);
        row(TRIANGLE, "best(0, %)", 0, 1);
        row(TRIANGLE, "best(2, %)", 1, 2);
        row(RICH, "best(0, %)", 0, 1, 2);
        row(ONE_TAP, "best(0, %)");
        row(line("place(4, 100) "), "best(0, %)", 0, 1, 2, 3, 4, 5, 6, 7, 8);
        row("place(1, 0) place(1, 0) " + "street(0, 1, 4) ".repeat(16), "best(%, 0)", 0, 1, 2, 3, 4, 5, 6, 7, 8, 9, 10, 11, 12, 13, 14, 15);
        row(nineWishes(), "best(0, %)", 0, 1, 2, 3, 4, 5, 6, 7, 8);
        row(nineWishes(), "best(8746, %)", 15);
        row(nineWishes(), "best(8747, %)");

        sentence(14, "of two of these the one stands ahead that has the lowest of all STREETS that are in just one of them");
        row("place(1, 0) place(2, 5) street(0, 1, 5) ", "best(0, %)", 0);
        row("place(1, 0) place(2, 5) street(0, 1, 5) ", "best(1, %)");
        row(TRIANGLE, "best(1, %)", 0, 2);
        // {0, 3} stands ahead of {1, 2}: the lowest decides, not the highest; {0, 1} of {0}: more may stand ahead.
        String crossed = "place(1, 0) place(1, 0) place(0, 0) place(0, 0) street(0, 2, 1) street(0, 3, 2) street(3, 1, 1) street(2, 1, 2) ";
        row(crossed, "best(0, %)", 0, 3);
        row(crossed, "best(1, %)", 1, 2);
        String wish = "place(1, 0) place(1, 0) place(2, 5) street(0, 1, 1) street(1, 2, 5) ";
        row(wish, "best(0, %)", 0, 1);
        row(wish, "best(1, %)", 0);

        sentence(14, "-1: none such.");
        for (int k : outside(3)) answers(TRIANGLE, "best(" + k + ", 0)", -1);
        for (int i : new int[] {MIN, -1, 2, 3, 9, 15, 16, 17, 31, 32, MAX}) answers(TRIANGLE, "best(0, " + i + ")", -1);
        answers(TRIANGLE, "best(3, 3)", -1);
        answers(nineWishes(), "best(8748, 0)", -1);
        for (int n = 1; n <= 9; n++) {
            row(wishes(n), "best(" + ((1 << n) - 2) + ", %)", n - 1);
            row(wishes(n), "best(" + ((1 << n) - 1) + ", %)");
            row(wishes(n), "best(" + (1 << n) + ", %)");
        }
        row(TRIANGLE + "drop(1) ", "best(1, %)");
        row(TRIANGLE + "drop(1) ", "best(2, %)");
        for (String none : new String[] {NEW, TAPLESS, TWO_APART, ONE_TAP}) answers(none, "best(0, 0)", -1);
        answers(STAR + "drop(3) drop(0) drop(2) ", "best(0, 0)", -1);
    }

    private static void must() {
        sentence(15, "2: a STREET is in all BEST TREES, 1: in some, 0: in none (one that is GONE, too).");
        String mixed = "place(1, 0) place(1, 0) place(1, 0) place(0, 0) street(0, 1, 4) street(1, 2, 4) street(2, 1, 4) street(0, 3, 1) street(0, 1, 1) ";
        row(mixed, "must(%)", 0, 1, 1, 0, 2);
        row(mixed + "drop(4) ", "must(%)", 2, 1, 1, 0, 0);
        row(mixed + "drop(1) ", "must(%)", 0, 0, 2, 0, 2);
        row(mixed + "drop(1) undo() ", "must(%)", 0, 1, 1, 0, 2);
        row(ONE_TAP + "street(0, 1, 1) ", "must(%)", 0);
        row("place(1, 0) place(2, 5) street(0, 1, 5) ", "must(%)", 1);
        row("place(1, 0) place(1, 0) " + "street(0, 1, 4) ".repeat(16), "must(%)", 1, 1, 1, 1, 1, 1, 1, 1, 1, 1, 1, 1, 1, 1, 1, 1);
        row("place(1, 0) place(1, 0) " + "street(0, 1, 4) ".repeat(15) + "street(0, 1, 3) ", "must(%)", 0, 0, 0, 0, 0, 0, 0, 0, 0, 0, 0, 0, 0, 0, 0, 2);

        sentence(15, "-1: no such STREET, or no TREE.");
        for (int s : outside(5)) answers(mixed, "must(" + s + ")", -1);
        for (int s : outside(16)) answers(FULL, "must(" + s + ")", -1);
        answers(mixed + "undo() ", "must(4)", -1);
        row(mixed + "drop(4) drop(0) ", "must(%)", -1, -1, -1, -1, -1);
        row(TAPLESS, "must(%)", -1, -1);
        row(TWO_APART, "must(%)", -1);
        answers(NEW, "must(0)", -1);
        answers(ONE_TAP, "must(0)", -1);
    }

    private static void most() {
        sentence(16, "The greatest sum of WORTHS of WISHES among the PLACES of a TREE whose COSTS and PRICES together are at most sum.");
        String wishes = "place(1, 0) place(2, 7) place(4, 3) place(2, 100) street(0, 1, 2) street(0, 2, 1) street(2, 3, 4) street(1, 3, 9) ";
        int[][] steps = {{0, 0}, {1, 0}, {2, 7}, {7, 7}, {8, 100}, {9, 100}, {10, 107}, {11, 107}, {MAX, 107}};
        for (int[] step : steps) answers(wishes, "most(" + step[0] + ")", step[1]);
        answers(STAR, "most(6)", 0);
        answers(STAR, "most(" + MAX + ")", 0);
        answers(ONE_TAP, "most(0)", 0);
        answers(line("place(2, 100) "), "most(900)", 800);
        answers("place(1, 0) " + "place(2, 100) ".repeat(9) + nineStreets(), "most(9)", 900);
        answers("place(1, 0) " + "place(2, 100) ".repeat(9) + nineStreets(), "most(8)", 800);
        answers(line("place(4, 100) "), "most(1700)", 0);

        sentence(16, "NO: there is no such TREE.");
        for (int sum : new int[] {MIN, -100, -1}) answers(wishes, "most(" + sum + ")", NO);
        for (int sum : new int[] {MIN, -1, 0, 5}) answers(STAR, "most(" + sum + ")", NO);
        answers(line("place(2, 100) "), "most(899)", NO);
        answers(line("place(4, 100) "), "most(1699)", NO);
        for (String none : new String[] {NEW, TAPLESS, TWO_APART}) answers(none, "most(" + MAX + ")", NO);
        answers(ONE_TAP, "most(-1)", NO);
    }

    private static String nineStreets() {
        StringBuilder streets = new StringBuilder();
        for (int p = 1; p < 10; p++) streets.append("street(0, " + p + ", 1) ");
        return streets.toString();
    }
}
