/** What else "Terms" say: sentences that name no boundary case, each by a promise that rests on it. */
final class BoundariesOfTerms extends Sentences {
    /** One place of each kind, which is its number; 3, 2, 2, 3 and 2 streets end at them. */
    private static final String KINDS = "place(0, 0) place(1, 0) place(2, 7) place(3, 0) place(4, 5) street(0, 1, 1) "
        + "street(0, 2, 1) street(0, 3, 1) street(1, 2, 1) street(3, 4, 1) street(4, 3, 1) ";
    private static final String TRIANGLE = "place(1, 0) place(1, 0) place(1, 0) street(0, 1, 4) street(1, 2, 4) street(2, 0, 4) ";

    private BoundariesOfTerms() { }

    static void all() {
        kinds();
        setsOfStreets();
        trees();
        theWay();
        theWalls();
        handsTree();
        bodiesOfPlaces();
        bodiesOfTaps();
        bodiesOfOthers();
        refusals();
    }

    private static void kinds() {
        sentence(31, "KINDS of PLACES: 0 PLACE. 1 TAP, under PLACE. 2 WISH, under PLACE");
        kind(0, true, false, false, false, false);
        kind(1, true, true, false, false, false);
        kind(2, true, false, true, false, false);

        sentence(31, "3 WELL, under TAP. 4 GATE, under PLACE");
        kind(3, true, true, false, true, false);
        kind(4, true, false, false, false, true);
    }

    private static void kind(int kind, boolean... under) {
        answers(KINDS, "told(" + kind + ", 0)", kind);
        for (int other = 0; other < under.length; other++) {
            String call = "forge(0, " + other + ", " + kind + ")";
            if (under[other]) doneAlone(KINDS, call, kind);
            else refused(KINDS, call, 11);
        }
    }

    private static void setsOfStreets() {
        sentence(12, "A set of STREETS that are there");
        String twice = "place(1, 0) place(1, 0) street(0, 1, 4) street(0, 1, 6) ";
        answers(twice, "least()", 4);
        answers(twice + "drop(0) ", "least()", 6);
        answers(twice + "drop(0) ", "must(0)", 0);
        answers(twice + "drop(0) ", "must(1)", 2);
        answers(twice + "drop(0) ", "most(5)", NO);
        answers(twice + "drop(0) drop(1) ", "least()", NO);
        answers(twice + "drop(0) drop(1) undo() ", "least()", 6);
        answers(twice + "lay(0) drop(0) ", "why()", 3);

        sentence(20, "its PLACES are these ends");
        String row = "place(1, 0) place(2, 7) place(4, 3) place(2, 9) street(0, 1, 4) street(1, 2, 5) ";
        answers(row, "tag()", 0);
        answers(row + "lay(0) ", "tag()", 4 - 7);
        // Two of its streets end at the wish, which counts once; no street of it ends at place 3.
        answers(row + "lay(0) lay(1) ", "tag()", 4 + 5 + 3 - 7);
        answers(row + "lay(1) ", "why()", 3);
        answers(row, "most(1000)", 7);
        answers(row + "street(3, 2, 1) ", "most(1000)", 16);
    }

    private static void trees() {
        String far = "place(1, 0) place(1, 0) place(2, 100) place(2, 100) street(0, 1, 4) street(2, 3, 1) ";
        sentence(12, "A TREE is a set of STREETS without a ring");
        answers(TRIANGLE + "lay(0) lay(1) ", "tag()", 8);
        answers(TRIANGLE + "lay(0) lay(1) lay(2) ", "tag()", NO);
        answers(TRIANGLE, "many()", 3);

        sentence(12, "that HANGS TOGETHER and has all TAPS");
        // The two wishes are worth far more than their street costs, but nothing leads there.
        answers(far, "least()", 4);
        answers(far, "many()", 1);
        answers(far, "must(1)", 0);
        answers(far, "most(1000)", 0);
        answers(far + "lay(0) lay(1) ", "tag()", NO);
        answers(far + "street(1, 2, 50) ", "least()", 4 + 1 + 50 - 200);
        row(far + "street(1, 2, 50) ", "best(0, %)", 0, 1, 2);

        sentence(12, "LEAST is the least PRICE TAG of a TREE.");
        answers(TRIANGLE, "least()", 8);
        answers(TRIANGLE + "street(0, 1, 3) ", "least()", 7);
        answers(TRIANGLE + "street(0, 1, 5) ", "least()", 8);
        answers(TRIANGLE + "place(2, 9) street(3, 0, 2) ", "least()", 1);
        answers(TRIANGLE + "place(2, 9) street(3, 0, 10) ", "least()", 8);
        answers(TRIANGLE + "place(4, 1) street(0, 3, 1) street(1, 3, 1) street(2, 3, 1) ", "least()", 4);

        sentence(13, "THE BEST TREES are those that have it");
        answers(TRIANGLE + "street(0, 1, 3) ", "many()", 2);
        row(TRIANGLE + "street(0, 1, 3) ", "best(0, %)", 1, 3);
        row(TRIANGLE + "street(0, 1, 3) ", "best(1, %)", 2, 3);
        answers(TRIANGLE + "street(0, 1, 3) ", "best(2, 0)", -1);
        answers(TRIANGLE + "street(0, 1, 4) ", "many()", 5);
        // With the wish and without it: both have the least tag.
        answers(TRIANGLE + "place(2, 9) street(3, 0, 9) ", "many()", 6);
    }

    private static void theWay() {
        sentence(10, "THE WAY from a to b:");
        String two = "place(0, 0) ".repeat(6) + "street(0, 1, 1) street(1, 4, 1) street(4, 5, 1) "
            + "street(0, 2, 1) street(2, 3, 1) street(3, 5, 1) ";
        row(two, "way(0, 5, %)", 0, 1, 4, 5);
        // Not the same row backwards: the lowest second place is another from there.
        row(two, "way(5, 0, %)", 5, 3, 2, 0);
    }

    private static void theWalls() {
        String halves = "place(1, 0) place(1, 0) place(1, 0) street(1, 2, 1) street(0, 1, 5) ";
        sentence(24, "WALLS: sets of PLACES with some TAP in them");
        row(halves, "wall(%, 0)", 2, 4, 6);

        sentence(24, "each has a SHARE, in 1024ths");
        for (int cost : new int[] {1, 2, 99, 100}) {
            row("place(1, 0) place(1, 0) street(0, 1, " + cost + ") ", "wall(%, 1)", 1024 * cost);
        }
        row(halves, "wall(%, 1)", 512, 512, 4608);

        sentence(24, "THE WALLS are raised so, WISHES and GATES being taken for PLACES: "
            + "each PLACE is a PART of its own at first, nothing is raised.");
        answers(halves, "bound()", 512 + 512 + 4608);
        answers(halves + "place(2, 9) place(4, 9) street(3, 1, 9) street(4, 2, 9) ", "bound()", 512 + 512 + 4608);
        row("place(1, 0) ".repeat(3) + "street(0, 1, 3) street(1, 2, 4) street(0, 2, 2) ", "wall(%, 0)", 2, 4);

        sentence(24, "A PART is ACTIVE if it is such a set (a WALL).");
        // 1 reaches 2, both reach 3, then all three the first tap; 2 and 3 by themselves raise nothing.
        String line = "place(1, 0) place(1, 0) place(0, 0) place(0, 0) street(1, 2, 2) street(2, 0, 3) street(2, 3, 1) ";
        row(line, "wall(%, 0)", 2, 6, 14);
        row(line, "wall(%, 1)", 2048, 1024, 2048);

        sentence(23, "Again and again, till no PART is ACTIVE:");
        String early = "place(1, 0) place(1, 0) place(0, 0) place(0, 0) street(0, 1, 2) street(1, 2, 9) street(2, 3, 1) ";
        row(early, "wall(%, 0)", 2);
        answers(early, "bound()", 2048);
        answers(early + "place(2, 5) place(4, 5) ", "walls()", 1);
        answers(early + "place(1, 0) street(3, 4, 1) ", "walls()", 4);

        sentence(24, "else the SHARES of all ACTIVE PARTS grow");
        String unlike = "place(1, 0) place(1, 0) place(1, 0) street(0, 1, 2) street(0, 2, 5) ";
        row(unlike, "wall(%, 0)", 2, 4);
        row(unlike, "wall(%, 1)", 2048, 5120);
    }

    private static void handsTree() {
        sentence(17, "HAND'S TREE is a set of STREETS laid by hand.");
        hand(TRIANGLE);
        hand(TRIANGLE + "lay(2) ", 2);
        hand(TRIANGLE + "lay(2) lay(0) lay(1) ", 0, 1, 2);
        hand(TRIANGLE + "lay(2) lay(0) lay(2) lay(1) ", 0, 1);
        same(TRIANGLE + "lay(2) lay(0) ", TRIANGLE + "lay(0) lay(2) ");

        sentence(21, "To TRIM it, if it is a TREE:");
        String spare = TRIANGLE + "place(0, 0) street(2, 3, 1) ";
        done(spare + "lay(0) lay(1) lay(3) ", "trim()", 1);
        hand(spare + "lay(0) lay(1) lay(3) trim() ", 0, 1);
        refused(spare + "lay(1) lay(3) ", "trim()", 3);
        refused(spare + "lay(0) lay(3) ", "trim()", 3);
        refused(spare + "lay(0) lay(1) lay(2) lay(3) ", "trim()", 3);

        sentence(21, "are no TAP, and whose STREET costs more than or as much as the WORTH of the PLACE");
        String wish = TRIANGLE + "place(2, 7) lay(0) lay(1) ";
        done(wish + "street(2, 3, 6) lay(3) ", "trim()", 0);
        done(wish + "street(2, 3, 7) lay(3) ", "trim()", 1);

        sentence(21, "(0 of others but WISHES; a GATE's PRICE is added to the STREET's COST), the one with the lowest number");
        done(TRIANGLE + "lay(0) lay(1) place(4, 100) street(2, 3, 1) lay(3) ", "trim()", 1);
        // The gate holds the wish behind it: neither is spare then.
        String held = TRIANGLE + "lay(0) lay(1) place(4, 100) place(2, 9) street(2, 3, 1) lay(3) ";
        done(held + "street(3, 4, 8) lay(4) ", "trim()", 0);
        done(held + "street(3, 4, 9) lay(4) ", "trim()", 2);
    }

    /** The act of the place of this kind answers so, and these bodies run. */
    private static void act(int kind, int act, int x, int answer, int... bodies) {
        String call = "act(" + kind + ", " + act + ", " + x + ")";
        done(KINDS, call, answer);
        row(KINDS + call + " ", "trace(%)", bodies);
    }

    private static void bodiesOfPlaces() {
        sentence(26, "BODIES, each with its number:");
        act(0, 3, 5, 16 ^ 5, 13, 11, 10, 12);

        sentence(26, "PLACE: 10 join: x + d.");
        act(0, 0, 5, 8, 10);
        act(1, 0, 5, 7, 10);
        act(2, 0, -5, -3, 10);
        act(4, 0, MAX, MIN + 1, 10);

        sentence(26, "11 cost: join(x) * 2.");
        act(0, 1, 5, 16, 11, 10);
        act(2, 1, 5, 14, 11, 10);
        act(0, 1, MAX, 4, 11, 10);

        sentence(26, "12 ask: x - n.");
        act(0, 2, 5, 5, 12);
        act(1, 2, 5, 4, 12);
        act(4, 2, 5, 1, 12);
        act(4, 2, MIN, MAX - 3, 12);

        sentence(26, "13 tell: cost(x) ^ ask(x).");
        act(0, 3, -1, 4 ^ -1, 13, 11, 10, 12);
        act(2, 3, 5, 14 ^ 21, 13, 11, 10, 30, 12);
    }

    private static void bodiesOfTaps() {
        sentence(26, "TAP: 20 cost: super.cost(x) + 1.");
        act(1, 1, 5, 15, 20, 11, 10);
        act(3, 1, 5, 35, 20, 11, 40, 10);

        sentence(26, "21 tell: super.tell(x - 1).");
        act(1, 3, 5, 13 ^ 3, 21, 13, 20, 11, 10, 12);
        act(3, 3, 5, 33 ^ 9, 21, 13, 20, 11, 40, 10, 41, 12);

        sentence(26, "WELL: 40 join: super.join(x) + 9.");
        act(3, 0, 5, 17, 40, 10);

        sentence(26, "41 ask: super.ask(x * 3).");
        act(3, 2, 5, 12, 41, 12);
        act(3, 2, MAX, MAX - 5, 41, 12);
    }

    private static void bodiesOfOthers() {
        sentence(26, "WISH: 30 ask: super.ask(x) * w.");
        act(2, 2, 5, 21, 30, 12);
        act(2, 2, 2, 0, 30, 12);

        sentence(26, "GATE: 50 cost: super.cost(x) + w.");
        act(4, 1, 5, 19, 50, 11, 10);

        sentence(26, "51 tell: ask(x) + super.tell(x).");
        act(4, 3, 5, 1 + (19 ^ 1), 51, 12, 13, 50, 11, 10, 12);
    }

    private static void refusals() {
        sentence(31, "10 .. 15 the host refused it:");
        refused(KINDS, "forge(0, 0, 5)", 10);
        refused(KINDS, "forge(0, 3, 1)", 11);
        refused(KINDS + "map(1, 1, 4) ", "forge(2, 4, 1)", 12);
        refused(KINDS, "forge(1, -1, 0)", 13);
        refused(KINDS, "forge(4, 0, 4)", 14);
        refused(KINDS, "forge(5, 0, 0)", 15);
    }
}
