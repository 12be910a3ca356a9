/** Promises 26 to 32: acts, maps, what the host refuses, and the status. */
final class BoundariesOfHost extends Sentences {
    /** One of each kind, its number its kind: 4, 1, 1, 2, 2 streets that are there end at them. */
    private static final String KINDS = "place(0, 0) place(1, 0) place(2, 7) place(3, 0) place(4, 9) "
        + "street(0, 1, 1) street(0, 2, 1) street(0, 3, 1) street(0, 4, 1) street(3, 4, 1) street(3, 4, 1) drop(5) ";

    private BoundariesOfHost() { }

    static void all() {
        act();
        actWraps();
        trace();
        traceKept();
        map();
        cell();
        fromMap();
        fromMapOutside();
        fromMapOrder();
        forgeNumbers();
        forgeKinds();
        forgeSizes();
        forgeInts();
        forgeBytes();
        forgeTaps();
        forgeDivision();
        forgeFailure();
        statusOfCalls();
        statusKept();
        statusCodes();
    }

    private static String filled(int map, int sort, int... numbers) {
        StringBuilder scene = new StringBuilder("map(" + map + ", " + sort + ", " + numbers.length + ") ");
        for (int i = 0; i < numbers.length; i++) scene.append("cell(" + map + ", " + i + ", " + numbers[i] + ") ");
        return scene.toString();
    }

    private static void act() {
        sentence(26, "An ACT of a PLACE with x: what it answers (any number).");
        int[][] fives = {{9, 18, 5, 18 ^ 5}, {6, 13, 4, 11 ^ 3}, {6, 12, 21, 12 ^ 21}, {16, 33, 12, 31 ^ 9}, {7, 23, 1, 1 + (23 ^ 1)}};
        for (int i = 0; i < 20; i++) done(KINDS, "act(" + i / 4 + ", " + i % 4 + ", 5)", fives[i / 4][i % 4]);
        done(KINDS, "act(0, 2, -1)", -1);
        done(KINDS, "act(0, 0, -5)", -1);
        done(KINDS, "act(0, 2, " + NO + ")", NO);
        done(KINDS, "act(0, 2, 0)", 0);

        sentence(26, "d is how many STREETS that are there end at it, w its WORTH or PRICE (0 of others), n its number");
        done(TEN_PLACES, "act(0, 0, 0)", 0);
        done(SIXTEEN_STREETS, "act(0, 0, 0)", 16);
        done(SIXTEEN_STREETS, "act(9, 0, 0)", 16);
        done(SIXTEEN_STREETS, "act(1, 0, 0)", 0);
        done(SIXTEEN_STREETS + "drop(0) ", "act(9, 0, 0)", 15);
        done(SIXTEEN_STREETS + "drop(0) undo() ", "act(9, 0, 0)", 16);
        done("place(2, 1) ", "act(0, 2, 9)", 9);
        done("place(2, 100) ", "act(0, 2, 9)", 900);
        done("place(4, 1) ", "act(0, 1, 9)", 19);
        done("place(4, 100) ", "act(0, 1, 9)", 118);
        done(TEN_PLACES, "act(9, 2, 0)", -9);

        sentence(26, "join(..) and so on: the body of the PLACE's KIND, or, if that has none, of the next KIND above that has one; super.join(..): so from the KIND above the body's on.");
        // The well has no cost and no tell of its own: the tap's run, and they call the well's join and ask.
        done(KINDS, "act(3, 1, 0)", (0 + 2 + 9) * 2 + 1);
        done(KINDS, "act(3, 3, 1)", (0 + 2 + 9) * 2 + 1 ^ 0 * 3 - 3);
        // The wish has an ask alone, and the place's tell calls it; the tap has no join, and its cost goes to the place's.
        done(KINDS, "act(2, 3, 0)", (0 + 1) * 2 ^ (0 - 2) * 7);
        done(KINDS, "act(1, 1, 0)", (0 + 1) * 2 + 1);

        sentence(26, "STATUS 1.");
        for (int p : outside(5)) refused(KINDS, "act(" + p + ", 0, 5)", 1);
        for (int act : outside(4)) refused(KINDS, "act(0, " + act + ", 5)", 1);
        for (int p : outside(10)) refused(FULL, "act(" + p + ", 3, 5)", 1);
        refused(NEW, "act(0, 0, 0)", 1);
        refused("place(0, 0) undo() ", "act(0, 0, 0)", 1);
        refused(RICH, "act(6, 4, 5)", 1);
        // An act changes the trace and nothing else.
        doneAlone(RICH, "act(3, 3, 2)", -1 + (11 ^ -1));
    }

    private static void actWraps() {
        sentence(26, "ACTS of PLACES, with a number x (32 bits, wrapping): 0 join, 1 cost, 2 ask, 3 tell");
        done(KINDS, "act(0, 0, " + MAX + ")", MIN + 3);
        done(KINDS, "act(0, 0, " + (MAX - 4) + ")", MAX);
        done(KINDS, "act(0, 1, " + MAX + ")", 6);
        done(KINDS, "act(0, 1, 1073741819)", MAX - 1);
        done(KINDS, "act(0, 1, 1073741820)", MIN);
        done(KINDS, "act(1, 2, " + MIN + ")", MAX);
        done(KINDS, "act(1, 2, " + (MIN + 1) + ")", MIN);
        done(KINDS, "act(1, 3, " + MIN + ")", MAX);
        done(KINDS, "act(2, 2, " + MIN + ")", MIN - 14);
        done(KINDS, "act(2, 2, 306783380)", 306783378 * 7);
        done(KINDS, "act(2, 2, 306783381)", 306783379 * 7);
        done(KINDS, "act(3, 0, " + MAX + ")", MIN + 10);
        done(KINDS, "act(3, 2, " + MAX + ")", MAX - 5);
        done(KINDS, "act(3, 2, 715827883)", -2147483647 - 3);
        done(KINDS, "act(4, 1, " + MAX + ")", 11);
        done(KINDS, "act(4, 3, " + MAX + ")", MAX - 4 + (11 ^ MAX - 4));
    }

    private static void trace() {
        sentence(27, "THE TRACE's i-th body.");
        int[][] bodies = {
            {10}, {11, 10}, {12}, {13, 11, 10, 12},
            {10}, {20, 11, 10}, {12}, {21, 13, 20, 11, 10, 12},
            {10}, {11, 10}, {30, 12}, {13, 11, 10, 30, 12},
            {40, 10}, {20, 11, 40, 10}, {41, 12}, {21, 13, 20, 11, 40, 10, 41, 12},
            {10}, {50, 11, 10}, {12}, {51, 12, 13, 50, 11, 10, 12}};
        for (int i = 0; i < 20; i++) row(KINDS + "act(" + i / 4 + ", " + i % 4 + ", 3) ", "trace(%)", bodies[i]);

        sentence(27, "-1: none such.");
        String acted = KINDS + "act(3, 3, 3) ";
        for (int i : outside(8)) answers(acted, "trace(" + i + ")", -1);
        for (int i : new int[] {49, 50, 51}) answers(acted, "trace(" + i + ")", -1);
        for (int i : outside(0)) answers(KINDS, "trace(" + i + ")", -1);
        answers(NEW, "trace(0)", -1);
        answers(acted + "act(0, 0, 3) ", "trace(1)", -1);
    }

    private static void traceKept() {
        sentence(27, "THE TRACE: the numbers of the bodies that ran in the latest act(), in the order in which they began (what stands further left is worked out first); the first 50 are kept.");
        String acted = KINDS + "act(4, 3, 3) ";
        row(acted, "trace(%)", 51, 12, 13, 50, 11, 10, 12);
        row(acted + "!act(5, 0, 3) ", "trace(%)", 51, 12, 13, 50, 11, 10, 12);
        row(acted + "!act(4, 4, 3) ", "trace(%)", 51, 12, 13, 50, 11, 10, 12);
        row(acted + "undo() undo() ", "trace(%)", 51, 12, 13, 50, 11, 10, 12);
        row(acted + "act(0, 2, 3) ", "trace(%)", 12);
        // No act runs more than 8 bodies, and acts do not add up.
        answers(KINDS + "act(3, 3, 3) ".repeat(20), "count(5)", 8);
        row(KINDS + "act(3, 3, 3) ".repeat(20) + "act(0, 0, 0) ", "trace(%)", 10);
    }

    private static void map() {
        sentence(28, "A MAP of a sort (0 .. 2) with n (0 .. 20) numbers, all 0; sort -1: it is missing from now on (n does not matter).");
        for (int sort = 0; sort <= 2; sort++) {
            done(RICH, "map(0, " + sort + ", 0)", 1);
            done(RICH, "map(4, " + sort + ", 20)", 1);
            refused("map(0, " + sort + ", 0) ", "cell(0, 0, 1)", 12);
            done("map(0, " + sort + ", 1) ", "cell(0, 0, 1)", 1);
            refused("map(0, " + sort + ", 1) ", "cell(0, 1, 1)", 12);
            done("map(0, " + sort + ", 20) ", "cell(0, 19, 1)", 1);
            refused("map(0, " + sort + ", 20) ", "cell(0, 20, 1)", 12);
            // A map that is made once more has no number left of the one before.
            String full = "place(0, 0) place(0, 0) " + filled(1, sort, 1, 0, 9, 1, 0, 9);
            done(full, "fromMap(1, " + sort + ", 3)", 0);
            refused(full + "map(1, " + sort + ", 6) ", "fromMap(1, " + sort + ", 3)", 3);
            same(full + "map(1, " + sort + ", 6) ", "place(0, 0) place(0, 0) map(1, " + sort + ", 6) ");
            same(full + "map(1, " + sort + ", 2) ", "place(0, 0) place(0, 0) map(1, " + sort + ", 2) ");
            same(full + "map(1, " + sort + ", 2) map(1, " + sort + ", 6) ", "place(0, 0) place(0, 0) map(1, " + sort + ", 6) ");
        }
        for (int i = 0; i < 20; i++) doneAlone(filled(0, 1, 5, 5, 5, 5, 5) + "map(0, 1, 20) ", "forge(2, " + i + ", 0)", 0);

        sentence(28, "sort -1: it is missing from now on (n does not matter)");
        for (int n : new int[] {MIN, -1, 0, 1, 20, 21, MAX}) {
            done(RICH, "map(1, -1, " + n + ")", 1);
            refused(RICH + "map(1, -1, " + n + ") ", "cell(1, 0, 1)", 10);
            doneAlone(RICH, "map(3, -1, " + n + ")", 1);
            same(filled(1, 1, 5, 6) + "map(1, -1, " + n + ") map(1, 1, 2) ", "map(1, 1, 2) ");
        }

        sentence(28, "Answers 1. STATUS 1.");
        for (int map : outside(5)) refused(RICH, "map(" + map + ", 0, 1)", 1);
        for (int map : outside(5)) refused(RICH, "map(" + map + ", -1, 1)", 1);
        for (int sort : new int[] {MIN, -3, -2, 3, 4, MAX}) refused(RICH, "map(1, " + sort + ", 1)", 1);
        for (int n : outside(21)) refused(RICH, "map(1, 1, " + n + ")", 1);
        for (int n : outside(21)) refused(RICH, "map(3, 0, " + n + ")", 1);
        refused(RICH, "map(1, 2, 21)", 1);
        for (int map = 0; map < 5; map++) done(RICH, "map(" + map + ", 1, 20)", 1);

        sentence(28, "MAPS 0 .. 4 are rows of numbers, or missing (as all are at first): of sort 0 (bytes), 1 (ints), 2 (longs).");
        refused("map(0, 1, 1) map(1, 1, 1) map(2, 1, 1) map(3, 1, 1) ", "cell(4, 0, 1)", 10);
        refused("map(4, 1, 1) ", "cell(0, 0, 1)", 10);
    }

    private static void cell() {
        sentence(29, "Number i of a MAP becomes v (of sort 0 cut to its lowest 8 bits, with sign).");
        int[][] cuts = {{0, 0}, {127, 127}, {128, -128}, {255, -1}, {256, 0}, {257, 1}, {300, 44}, {-1, -1}, {-128, -128},
            {-129, 127}, {-256, 0}, {MIN, 0}, {MAX, -1}};
        for (int[] cut : cuts) {
            done("map(0, 0, 2) cell(0, 1, " + cut[0] + ") ", "forge(3, 1, 0)", cut[1]);
            done("map(0, 1, 2) cell(0, 1, " + cut[0] + ") ", "forge(2, 1, 0)", cut[0]);
            done("map(0, 1, 2) cell(0, 1, " + cut[0] + ") ", "forge(2, 0, 0)", 0);
        }
        // Longs are not cut: 356 is no cost, though its lowest 8 bits are 100.
        String two = "place(0, 0) place(0, 0) ";
        done(two + filled(0, 0, 0, 1, 356), "fromMap(0, 0, 0)", 0);
        refused(two + filled(0, 1, 0, 1, 356), "fromMap(0, 1, 0)", 3);
        refused(two + filled(0, 2, 0, 1, 356), "fromMap(0, 2, 0)", 3);
        refused(two + filled(0, 2, 0, 1, MIN + 5), "fromMap(0, 2, 0)", 3);
        done(two + filled(0, 2, 0, 1, 100), "fromMap(0, 2, 0)", 0);
        done(two + filled(0, 0, 256, 257, 256 + 1), "fromMap(0, 0, 0)", 0);

        sentence(29, "Answers 1.");
        for (int map : new int[] {0, 1, 2}) {
            done(RICH, "cell(" + map + ", 0, " + MIN + ")", 1);
            done(RICH, "cell(" + map + ", 2, " + MAX + ")", 1);
        }

        sentence(29, "STATUS 1 (no such MAP), 10, 12.");
        for (int map : outside(5)) refused(RICH, "cell(" + map + ", 0, 1)", 1);
        for (int i : new int[] {MIN, -1, 0, 19, 20, MAX}) refused(RICH, "cell(3, " + i + ", 1)", 10);
        for (int i : outside(5)) refused(RICH, "cell(0, " + i + ", 1)", 12);
        for (int i : outside(4)) refused(RICH, "cell(1, " + i + ", 1)", 12);
        for (int i : outside(3)) refused(RICH, "cell(2, " + i + ", 1)", 12);
        for (int i : outside(0)) refused(RICH, "cell(4, " + i + ", 1)", 12);
        refused(RICH, "cell(5, -1, 1)", 1);
    }

    private static void fromMap() {
        sentence(30, "A STREET by three numbers of a MAP that is taken for one of a sort, from place i on: first PLACE, second PLACE, COST: its number.");
        for (int sort = 0; sort <= 2; sort++) {
            String scene = "place(1, 0) place(1, 0) place(0, 0) " + filled(sort, sort, 2, 1, 100, 0, 1, 1, 2);
            done(scene, "fromMap(" + sort + ", " + sort + ", 0)", 0);
            row(scene + "fromMap(" + sort + ", " + sort + ", 0) ", "streetTold(0, %)", 2, 1, 100, 1, 0);
            done(scene + "fromMap(" + sort + ", " + sort + ", 0) ", "fromMap(" + sort + ", " + sort + ", 0)", 1);
            done(scene, "fromMap(" + sort + ", " + sort + ", 3)", 0);
            row(scene + "fromMap(" + sort + ", " + sort + ", 3) ", "streetTold(0, %)", 0, 1, 1, 1, 0);
            refused(scene, "fromMap(" + sort + ", " + sort + ", 4)", 3);
            same(scene + "fromMap(" + sort + ", " + sort + ", 0) ", scene + "street(2, 1, 100) ");
        }
        done(RICH, "fromMap(0, 0, 1)", 8);
        done(RICH, "fromMap(2, 2, 0)", 8);
        String fifteen = SIXTEEN_STREETS + "undo() " + filled(0, 1, 0, 9, 1);
        done(fifteen, "fromMap(0, 1, 0)", 15);

        sentence(30, "3 (they tell no STREET)");
        int[][] none = {{0, 0, 5}, {-1, 0, 5}, {0, -1, 5}, {3, 0, 5}, {0, 3, 5}, {0, 1, 0}, {0, 1, -1}, {0, 1, 101}};
        for (int[] numbers : none) {
            for (int sort = 0; sort <= 2; sort++) {
                refused("place(0, 0) place(0, 0) place(0, 0) " + filled(0, sort, numbers), "fromMap(0, " + sort + ", 0)", 3);
            }
        }
        for (int far : new int[] {MIN, MAX, 10, 1000}) {
            refused(TEN_PLACES + filled(0, 1, far, 0, 5), "fromMap(0, 1, 0)", 3);
            refused(TEN_PLACES + filled(0, 1, 0, far, 5), "fromMap(0, 1, 0)", 3);
            refused(TEN_PLACES + filled(0, 1, 0, 1, far > 0 ? 91 + far : far), "fromMap(0, 1, 0)", 3);
        }
        refused(filled(0, 1, 0, 1, 5), "fromMap(0, 1, 0)", 3);
    }

    private static void fromMapOutside() {
        sentence(30, "STATUS 1 (no such MAP, sort), 2, 10, 11, 12, 3 (they tell no STREET); these in this order.");
        for (int map : outside(5)) refused(RICH, "fromMap(" + map + ", 0, 0)", 1);
        for (int sort : outside(3)) refused(RICH, "fromMap(0, " + sort + ", 0)", 1);
        for (int sort : outside(3)) refused(RICH, "fromMap(3, " + sort + ", 0)", 1);
        for (int sort = 0; sort <= 2; sort++) refused(RICH, "fromMap(3, " + sort + ", 0)", 10);
        for (int map = 0; map <= 2; map++) {
            for (int sort = 0; sort <= 2; sort++) {
                if (sort != map) refused(RICH, "fromMap(" + map + ", " + sort + ", 0)", 11);
            }
        }
        refused(RICH, "fromMap(4, 0, 0)", 11);
        refused(SIXTEEN_STREETS + filled(0, 1, 0, 9, 1), "fromMap(0, 1, 0)", 2);

        sentence(30, "from place i on");
        for (int i : new int[] {MIN, MIN + 1, -3, -2, -1, 3, 4, 5, 18, 20, MAX - 3, MAX - 2, MAX - 1, MAX}) {
            refused(RICH, "fromMap(0, 0, " + i + ")", 12);
            refused(RICH, "fromMap(1, 1, " + i + ")", 12);
        }
        refused(RICH, "fromMap(0, 0, 2)", 3);
        refused(RICH, "fromMap(1, 1, 2)", 12);
        refused(RICH, "fromMap(2, 2, 1)", 12);
        refused(RICH, "fromMap(4, 1, 0)", 12);
        for (int n = 0; n <= 2; n++) refused(TEN_PLACES + "map(0, 1, " + n + ") ", "fromMap(0, 1, 0)", 12);
        String twenty = TEN_PLACES + "map(0, 1, 20) cell(0, 17, 0) cell(0, 18, 9) cell(0, 19, 7) ";
        done(twenty, "fromMap(0, 1, 17)", 0);
        refused(twenty, "fromMap(0, 1, 18)", 12);
    }

    private static void fromMapOrder() {
        sentence(30, "these in this order");
        // 1 before each other one.
        refused(FULL, "fromMap(5, 0, 0)", 1);
        refused(FULL, "fromMap(0, 3, 0)", 1);
        refused(RICH, "fromMap(3, 3, -1)", 1);
        refused(RICH, "fromMap(0, -1, 9)", 1);
        // 2 before 10, 11, 12, 3.
        refused(FULL, "fromMap(3, 0, 0)", 2);
        refused(FULL, "fromMap(0, 1, 0)", 2);
        refused(FULL, "fromMap(0, 0, 9)", 2);
        refused(FULL + filled(0, 1, 0, 0, 0), "fromMap(0, 1, 0)", 2);
        refused(FULL + "drop(3) ", "fromMap(0, 0, 1)", 2);
        // 10 and 11 before 12, and 12 before 3.
        refused(RICH, "fromMap(3, 0, -1)", 10);
        refused(RICH, "fromMap(0, 1, -1)", 11);
        refused(RICH, "fromMap(0, 2, " + MAX + ")", 11);
        refused(RICH, "fromMap(1, 0, 9)", 11);
        refused(RICH + filled(0, 1, 0, 0, 0), "fromMap(0, 1, 1)", 12);
    }

    private static void forgeNumbers() {
        sentence(31, "What the host does, by what (STATUS 1: another; n or k outside -100 .. 100):");
        for (int what : outside(7)) refused(RICH, "forge(" + what + ", 1, 0)", 1);
        for (int what = 0; what < 7; what++) {
            for (int far : new int[] {MIN, -102, -101, 101, 102, MAX}) {
                refused(RICH, "forge(" + what + ", " + far + ", 1)", 1);
                refused(RICH, "forge(" + what + ", 1, " + far + ")", 1);
                refused(RICH, "forge(" + what + ", " + far + ", " + far + ")", 1);
            }
        }
        refused(RICH, "forge(7, 101, 0)", 1);
        doneAlone(RICH, "forge(0, 100, 100)", 3);
        doneAlone(RICH, "forge(0, -100, -100)", 3);
        doneAlone(RICH, "forge(1, 100, -100)", 100);
        doneAlone(RICH, "forge(2, 0, -99)", 2);
        doneAlone(RICH, "forge(3, 1, 100)", 4);
        doneAlone(RICH, "forge(4, 100, -100)", 3);
        doneAlone(RICH, "forge(5, 100, 100)", 10);
        doneAlone(RICH, "forge(5, -100, -100)", -10);
        doneAlone(RICH, "forge(6, 99, 100)", 1);

        sentence(31, "Where several hold, the lowest.");
        refused(RICH, "forge(1, -101, 0)", 1);
        refused(RICH, "forge(5, 0, 101)", 1);
        refused(RICH, "forge(2, -1, 3)", 10);
        refused(RICH, "forge(2, -1, 0)", 11);
        refused(RICH, "forge(3, -1, 3)", 10);
        refused(RICH, "forge(3, -1, 1)", 11);
        refused(RICH, "forge(3, 4, 2)", 11);
        refused(RICH, "forge(0, 4, 9)", 10);
    }

    private static void forgeKinds() {
        sentence(31, "0 PLACE k modulo 10 is taken for one whose KIND is n modulo 5 (also for numbers below 0) or one under that one (also by others between): "
            + "10 (there is no such PLACE), 11; answers its KIND.");
        for (int own = 0; own < 5; own++) {
            for (int kind = 0; kind < 5; kind++) {
                boolean under = kind == 0 || kind == own || kind == 1 && own == 3;
                for (int n : new int[] {kind, kind + 5, kind - 5, kind + 95, kind - 100}) {
                    String call = "forge(0, " + n + ", " + own + ")";
                    if (under) doneAlone(KINDS, call, own);
                    else refused(KINDS, call, 11);
                }
            }
        }
        for (int k = -100; k <= 100; k++) {
            int p = Math.floorMod(k, 10);
            if (p < 5) doneAlone(KINDS, "forge(0, 0, " + k + ")", p);
            else refused(KINDS, "forge(0, 0, " + k + ")", 10);
        }
        for (int n = 0; n < 5; n++) refused(NEW, "forge(0, " + n + ", 0)", 10);
        doneAlone(TEN_PLACES, "forge(0, 0, 9)", 0);
        doneAlone(TEN_PLACES, "forge(0, 0, -1)", 0);
        refused(TEN_PLACES + "undo() ", "forge(0, 0, -1)", 10);
    }

    private static void forgeSizes() {
        sentence(31, "1 a row of n numbers is made: 13; answers n.");
        for (int n : new int[] {-100, -99, -2, -1}) refused(RICH, "forge(1, " + n + ", 0)", 13);
        for (int n : new int[] {0, 1, 2, 20, 21, 99, 100}) doneAlone(RICH, "forge(1, " + n + ", 0)", n);
        doneAlone(NEW, "forge(1, 0, 0)", 0);
        refused(NEW, "forge(1, -1, 0)", 13);
    }

    private static void forgeInts() {
        sentence(31, "2 MAP k modulo 5 is taken for one of sort 1: 11; its number n: 10, 12; answers it.");
        int[] ints = {2, 3, 50, -1};
        for (int i = 0; i < 4; i++) doneAlone(RICH, "forge(2, " + i + ", 1)", ints[i]);
        for (int n : new int[] {-100, -2, -1, 4, 5, 20, 100}) refused(RICH, "forge(2, " + n + ", 1)", 12);
        for (int n : new int[] {-1, 0, 1}) refused(RICH, "forge(2, " + n + ", 4)", 12);
        for (int n : new int[] {-1, 0, 2, 3, 100}) {
            refused(RICH, "forge(2, " + n + ", 0)", 11);
            refused(RICH, "forge(2, " + n + ", 2)", 11);
            refused(RICH, "forge(2, " + n + ", 3)", 10);
        }
        for (int k : new int[] {6, 96, -4, -99}) doneAlone(RICH, "forge(2, 2, " + k + ")", 50);
        for (int k : new int[] {-2, 8, 98, -97}) refused(RICH, "forge(2, 2, " + k + ")", 10);
        doneAlone("map(2, 1, 20) cell(2, 19, " + MIN + ") ", "forge(2, 19, 2)", MIN);
        refused("map(2, 1, 20) ", "forge(2, 20, 2)", 12);
    }

    private static void forgeBytes() {
        sentence(31, "3 n numbers of MAP k modulo 5, taken for one of sort 0 (11), from its number 1 on, are copied to a row of 6 from place n on: 10, 12 "
            + "(n below 0, or they do not stand there in both; also if it has no numbers at all); answers their sum.");
        String bytes = filled(0, 0, 9, 1, -2, 4, 8, 16, 32, 64);
        int[] sums = {0, 1, -1, 3};
        for (int n = 0; n < 4; n++) doneAlone(bytes, "forge(3, " + n + ", 0)", sums[n]);
        for (int n : new int[] {-100, -1, 4, 5, 6, 7, 100}) refused(bytes, "forge(3, " + n + ", 0)", 12);
        // The map of n + 1 numbers has n from its number 1 on; the one of n has not.
        for (int n = 0; n <= 3; n++) {
            doneAlone("map(1, 0, " + (n + 1) + ") ", "forge(3, " + n + ", 1)", 0);
            refused("map(1, 0, " + n + ") ", "forge(3, " + n + ", 1)", 12);
        }
        refused("map(1, 0, 20) ", "forge(3, 4, 1)", 12);
        refused("map(1, 0, 0) ", "forge(3, -1, 1)", 12);
        doneAlone(filled(1, 0, 127, -128, -128, -128), "forge(3, 3, 1)", -384);
        doneAlone(filled(1, 0, -128, 127, 127, 127), "forge(3, 3, 1)", 381);
        doneAlone(filled(1, 0, 5, -1), "forge(3, 1, 1)", -1);
        for (int n : new int[] {-1, 0, 1, 4}) {
            refused(RICH, "forge(3, " + n + ", 1)", 11);
            refused(RICH, "forge(3, " + n + ", 2)", 11);
            refused(RICH, "forge(3, " + n + ", 4)", 11);
            refused(RICH, "forge(3, " + n + ", 3)", 10);
        }
        for (int k : new int[] {-100, -5, 5, 100}) doneAlone(bytes, "forge(3, 3, " + k + ")", 3);
        for (int k : new int[] {-99, -1, 1, 99}) refused(bytes, "forge(3, 3, " + k + ")", 10);
    }

    private static void forgeTaps() {
        sentence(31, "4 PLACE k modulo 10 is put into a row that takes TAPS and WELLS: 14; answers its KIND (0: there is no such).");
        for (int k = -100; k <= 100; k++) {
            int p = Math.floorMod(k, 10);
            if (p == 1 || p == 3) doneAlone(KINDS, "forge(4, 0, " + k + ")", p);
            else if (p < 5) refused(KINDS, "forge(4, 0, " + k + ")", 14);
            else doneAlone(KINDS, "forge(4, 0, " + k + ")", 0);
        }
        doneAlone(NEW, "forge(4, 0, 0)", 0);
        refused(TEN_PLACES, "forge(4, 0, -1)", 14);
        doneAlone(TEN_PLACES + "undo() ", "forge(4, 0, -1)", 0);
        doneAlone(TEN_PLACES + "undo() place(1, 0) ", "forge(4, 0, -1)", 1);
    }

    private static void forgeDivision() {
        sentence(31, "5 1000 is divided by n: 15.");
        int[][] parts = {{1, 1000}, {-1, -1000}, {2, 500}, {3, 333}, {-3, -333}, {7, 142}, {-7, -142}, {99, 10}, {-99, -10}, {100, 10}, {-100, -10}};
        for (int[] part : parts) doneAlone(RICH, "forge(5, " + part[0] + ", 0)", part[1]);
        for (int k : new int[] {-100, -1, 0, 1, 100}) refused(RICH, "forge(5, 0, " + k + ")", 15);
    }

    private static void forgeFailure() {
        sentence(31, "6 a failure is thrown: n modulo 2 is 0: none is there: 10; 1: one that is caught at once; answers 1.");
        for (int n : new int[] {-100, -2, 0, 2, 100}) refused(RICH, "forge(6, " + n + ", 0)", 10);
        for (int n : new int[] {-99, -3, -1, 1, 3, 99}) doneAlone(RICH, "forge(6, " + n + ", 0)", 1);
        doneAlone(NEW, "forge(6, 1, 0)", 1);
    }

    private static void statusOfCalls() {
        sentence(32, "STATUS of the latest call that is no question (place, street, drop, lay, clear, trim, better, map, cell, fromMap, act, forge, undo): 0 done");
        status(NEW, 0);
        String[][] calls = {
            {"place(0, 0) ", "!place(5, 0) ", "1"}, {"street(0, 1, 1) ", "!street(0, 0, 1) ", "1"}, {"drop(3) ", "!drop(7) ", "3"},
            {"lay(3) ", "!lay(7) ", "1"}, {"trim() ", "lay(0) !trim() ", "3"}, {"better() ", "lay(0) !better() ", "3"},
            {"map(3, 0, 1) ", "!map(5, 0, 1) ", "1"}, {"cell(0, 0, 1) ", "!cell(3, 0, 1) ", "10"}, {"fromMap(0, 0, 1) ", "!fromMap(0, 1, 1) ", "11"},
            {"act(0, 0, 1) ", "!act(0, 4, 1) ", "1"}, {"forge(5, 1, 0) ", "!forge(5, 0, 0) ", "15"}, {"undo() ", "undo() ".repeat(10) + "!undo() ", "3"}};
        for (String[] call : calls) {
            status(RICH + "!forge(4, 0, 2) " + call[0], 0);
            status(RICH + "act(0, 0, 0) " + call[1], Integer.parseInt(call[2]));
        }
        status(RICH + "!forge(4, 0, 2) clear() ", 0);
    }

    private static void statusKept() {
        sentence(32, "STATUS.");
        String questions = "told(0, 0) told(-1, 0) streetTold(0, 0) streetTold(16, 0) count(0) count(7) apart(0, 1) apart(0, 10) way(0, 1, 0) way(0, 0, 1) "
            + "span() least() many() best(0, 0) best(-1, 0) must(0) must(16) most(9) most(-1) why() tag() walls() wall(0, 0) wall(-1, 0) bound() trace(0) trace(50) status() ";
        for (String scene : new String[] {RICH, FULL, NEW}) {
            status(scene + "!forge(5, 0, 0) " + questions, 15);
            status(scene + "!forge(5, 0, 0) forge(5, 1, 0) " + questions, 0);
        }
        status(questions, 0);
    }

    private static void statusCodes() {
        sentence(32, "1 a number is none such or outside what is told");
        refused(RICH, "place(-1, 0)", 1);
        refused(RICH, "place(2, 101)", 1);
        sentence(32, "2 there is no room");
        refused(FULL, "place(0, 0)", 2);
        refused(FULL, "street(0, 1, 1)", 2);
        sentence(32, "3 it is not so (as told)");
        refused(RICH, "place(3, 0)", 3);
        refused(RICH, "drop(7)", 3);
        sentence(32, "10 nothing where something is asked");
        refused(RICH, "cell(3, 0, 0)", 10);
        refused(RICH, "forge(0, 0, 6)", 10);
        sentence(32, "11 a thing of another sort or KIND");
        refused(RICH, "fromMap(0, 1, 0)", 11);
        refused(RICH, "forge(0, 1, 4)", 11);
        sentence(32, "12 a place outside");
        refused(RICH, "cell(0, 5, 0)", 12);
        refused(RICH, "forge(2, 4, 1)", 12);
        sentence(32, "13 a size below 0");
        refused(RICH, "forge(1, -1, 0)", 13);
        sentence(32, "14 a thing that does not fit");
        refused(RICH, "forge(4, 0, 2)", 14);
        sentence(32, "15 divided by 0");
        refused(RICH, "forge(5, 0, 0)", 15);

        sentence(32, "Such calls answer -1 and change nothing else.");
        String[] calls = {"place(5, 5)", "place(0, 0)", "street(0, 0, 1)", "street(0, 1, 1)", "drop(16)", "drop(7)", "lay(16)", "lay(7)",
            "map(5, 0, 0)", "map(0, 3, 0)", "map(0, 0, 21)", "cell(5, 0, 0)", "cell(3, 0, 0)", "cell(0, 5, 0)", "fromMap(5, 0, 0)",
            "fromMap(0, 0, 1)", "act(10, 0, 0)", "act(0, 4, 0)", "forge(7, 0, 0)", "forge(1, -1, 0)"};
        int[] status = {1, 2, 1, 2, 1, 3, 1, 1, 1, 1, 1, 1, 10, 12, 1, 2, 1, 1, 1, 13};
        for (int i = 0; i < calls.length; i++) refused(FULL, calls[i], status[i]);

        sentence(32, "NONE is -1; NO, where a sum is answered, -1000000.");
        equal("NONE", DripLines.NONE, -1);
        equal("NO", DripLines.NO, -1000000);
    }
}
