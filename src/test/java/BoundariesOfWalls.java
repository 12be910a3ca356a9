/** Promises 23 to 25: the walls and the bound. */
final class BoundariesOfWalls extends Sentences {
    private static final String TAPLESS = "place(0, 0) place(2, 5) place(4, 5) street(0, 1, 1) street(1, 2, 1) ";
    private static final String ONE_TAP = "place(0, 0) place(1, 0) street(0, 1, 1) ";
    private static final String TWO_APART = "place(1, 0) place(1, 0) place(0, 0) street(1, 2, 5) ";
    private static final String STAR = "place(3, 0) place(1, 0) place(1, 0) place(0, 0) street(0, 1, 4) street(1, 2, 4) "
        + "street(0, 2, 4) street(0, 3, 2) street(1, 3, 2) street(2, 3, 2) ";
    /** 2 and 4 grow by 1536 each and join; they grow on by 512 to 1, then by 6144 to 0. */
    private static final String FOUR_WALLS = "place(1, 0) place(0, 0) place(1, 0) place(4, 5) place(1, 0) "
        + "street(0, 1, 6) street(1, 2, 2) street(2, 4, 3) street(3, 4, 50) street(4, 0, 50) ";

    private BoundariesOfWalls() { }

    static void all() {
        walls();
        root();
        joining();
        fails();
        wall();
        bound();
    }

    /** Ten taps in a row, joined at this cost each. */
    private static String tenTaps(int cost) {
        StringBuilder scene = new StringBuilder("place(1, 0) ".repeat(10));
        for (int p = 0; p < 9; p++) scene.append("street(" + p + ", " + (p + 1) + ", " + cost + ") ");
        return scene.toString();
    }

    private static void walls() {
        sentence(23, "How many WALLS with a SHARE above 0 are raised.");
        answers(ONE_TAP, "walls()", 0);
        answers("place(3, 0) ", "walls()", 0);
        answers("place(1, 0) place(1, 0) street(0, 1, 1) ", "walls()", 1);
        answers(STAR, "walls()", 3);
        answers(FOUR_WALLS, "walls()", 4);
        answers(tenTaps(100), "walls()", 10);
        // 0 with 1 first: {1, 2} is never a part. 1 with 2 first: {1, 2} is one, but with a share of 0.
        answers("place(1, 0) place(1, 0) place(1, 0) street(0, 1, 4) street(1, 2, 8) ", "walls()", 2);
        answers("place(1, 0) place(1, 0) place(1, 0) street(1, 2, 8) street(0, 1, 4) ", "walls()", 2);
        answers("place(1, 0) place(1, 0) place(1, 0) street(1, 2, 7) street(0, 1, 4) ", "walls()", 3);

        sentence(23, "-1: there is no TAP; -2: it FAILS.");
        answers(NEW, "walls()", -1);
        answers(TAPLESS, "walls()", -1);
        answers("place(1, 0) undo() ", "walls()", -1);
        answers("place(1, 0) place(1, 0) ", "walls()", -2);
        answers(TWO_APART, "walls()", -2);
        answers(TWO_APART + "street(0, 2, 5) ", "walls()", 2);
        answers(TWO_APART + "street(0, 2, 5) drop(0) ", "walls()", -2);
        answers(TWO_APART + "street(0, 2, 5) drop(0) undo() ", "walls()", 2);
        answers(STAR + "place(1, 0) ", "walls()", -2);
        answers(STAR + "place(0, 0) ", "walls()", 3);
        answers(STAR + "place(1, 0) undo() ", "walls()", 3);
        answers(tenTaps(100) + "undo() ".repeat(10), "walls()", -2);
        answers(tenTaps(100) + "undo() ".repeat(9), "walls()", -2);
        answers("place(1, 0) place(1, 0) street(0, 1, 1) place(1, 0) street(1, 2, 1) undo() undo() ", "walls()", 1);
    }

    private static void root() {
        sentence(23, "sets of PLACES with some TAP in them, but without the WELL (if there is none: without the TAP with the lowest number, which is taken for it here)");
        String line = "street(0, 1, 1) street(1, 2, 2) ";
        row("place(1, 0) place(0, 0) place(3, 0) " + line, "wall(%, 0)", 1, 3);
        answers("place(1, 0) place(0, 0) place(3, 0) " + line, "walls()", 2);
        answers("place(1, 0) place(0, 0) place(3, 0) " + line, "bound()", 3072);
        row("place(1, 0) place(0, 0) place(1, 0) " + line, "wall(%, 0)", 4, 6);
        row("place(0, 0) place(1, 0) place(1, 0) " + line, "wall(%, 0)", 4);
        row("place(3, 0) place(0, 0) place(1, 0) " + line, "wall(%, 0)", 4, 6);
        answers("place(0, 0) place(3, 0) place(0, 0) " + line, "walls()", 0);
        // The well that is taken back leaves the lowest tap.
        row("place(1, 0) place(1, 0) street(0, 1, 3) place(3, 0) street(1, 2, 3) undo() undo() ", "wall(%, 0)", 2);
        row("place(1, 0) place(1, 0) street(0, 1, 3) place(3, 0) street(1, 2, 3) ", "wall(%, 0)", 1, 2, 3);

        sentence(25, "WISHES and GATES being taken for PLACES");
        for (String kind : new String[] {"place(0, 0) ", "place(2, 100) ", "place(4, 100) "}) {
            answers("place(1, 0) " + kind + "place(3, 0) street(0, 1, 2) street(1, 2, 3) ", "bound()", 5120);
            answers("place(1, 0) " + kind + "place(3, 0) street(0, 1, 2) street(1, 2, 3) street(0, 2, 4) ", "bound()", 4096);
        }
    }

    private static void joining() {
        sentence(24, "if some have a ROOM below c, the one of these with the lowest number joins its PARTS into one (the WALLS raised till then stay, with their SHARES)");
        // Both streets are used up at once: the lower number decides what becomes a part.
        String both = "place(1, 0) place(0, 0) place(1, 0) place(0, 0) ";
        row(both + "street(2, 1, 2) street(2, 3, 2) street(0, 3, 9) ", "wall(%, 0)", 4, 14);
        row(both + "street(2, 3, 2) street(2, 1, 2) street(0, 3, 9) ", "wall(%, 0)", 4, 14);
        row(both + "street(2, 3, 2) street(2, 1, 3) street(0, 3, 9) ", "wall(%, 0)", 4, 12, 14);
        row(both + "street(2, 3, 2) street(2, 1, 3) street(0, 3, 9) ", "wall(%, 1)", 2048, 1024, 8192);
        row(both + "street(2, 3, 2) street(2, 1, 2) street(0, 3, 9) ", "wall(%, 1)", 2048, 9216);
        row(STAR, "wall(%, 0)", 2, 4, 14);
        row(STAR, "wall(%, 1)", 2048, 2048, 2048);

        sentence(24, "the SHARES of all ACTIVE PARTS grow by the least, over these STREETS, of ROOM / c, cut to a whole number");
        // A street between two that are active is used up from both sides.
        row("place(3, 0) place(1, 0) place(1, 0) street(1, 2, 1) street(0, 1, 50) ", "wall(%, 1)", 512, 512, 50 * 1024 - 512);
        row("place(3, 0) place(1, 0) place(1, 0) street(1, 2, 1) street(0, 1, 1) ", "wall(%, 1)", 512, 512, 512);
        row("place(3, 0) place(1, 0) place(1, 0) street(1, 2, 3) street(0, 1, 1) ", "wall(%, 1)", 1024, 2048);
        // Each growth halves what shares are made of: 512, then 256, then 128.
        String halves = "place(3, 0) place(1, 0) place(1, 0) place(1, 0) place(1, 0) street(1, 2, 1) street(2, 3, 2) street(3, 4, 3) street(0, 4, 100) ";
        row(halves, "wall(%, 0)", 2, 4, 8, 16, 6, 14, 30);
        row(halves, "wall(%, 1)", 512, 512, 1024, 1536, 512, 512, 100864);
    }

    private static void fails() {
        sentence(23, "of the STREETS that are there and join two unlike PARTS, of which c (1 or 2) are ACTIVE (if there are none, it FAILS)");
        // Walls were raised on the way, but it fails at the end.
        String late = "place(1, 0) place(1, 0) place(1, 0) place(0, 0) street(1, 2, 3) street(2, 3, 1) ";
        answers(late, "walls()", -2);
        answers(late + "street(3, 0, 1) ", "walls()", 4);
        answers(late + "street(3, 0, 1) drop(2) ", "walls()", -2);
        // Streets between parts that are not active, or within one, are no help.
        answers("place(1, 0) place(1, 0) place(0, 0) place(0, 0) street(2, 3, 1) street(0, 2, 1) ", "walls()", -2);
        answers("place(1, 0) place(1, 0) place(1, 0) street(1, 2, 1) street(2, 1, 9) ", "walls()", -2);
        // What is not active need not be reached.
        answers("place(1, 0) place(1, 0) place(2, 5) place(4, 5) street(0, 1, 1) street(2, 3, 1) ", "walls()", 1);
    }

    private static void wall() {
        sentence(24, "Of the i-th of these (by the order in which they became PARTS, of the first ones by PLACES): 0 its PLACES' bits, 1 its SHARE.");
        row(FOUR_WALLS, "wall(%, 0)", 4, 16, 20, 22);
        row(FOUR_WALLS, "wall(%, 1)", 1536, 1536, 512, 6144);
        row(tenTaps(100), "wall(%, 0)", 2, 4, 8, 16, 32, 64, 128, 256, 512, 1022);
        row(tenTaps(100), "wall(%, 1)", 51200, 51200, 51200, 51200, 51200, 51200, 51200, 51200, 51200, 51200);
        // {3, 4} is joined before {1, 2}: it stands before it.
        String later = "place(3, 0) place(1, 0) place(1, 0) place(1, 0) place(1, 0) street(1, 2, 4) street(3, 4, 2) street(0, 1, 50) street(0, 3, 50) ";
        row(later, "wall(%, 0)", 2, 4, 8, 16, 24, 6);

        sentence(24, "-1: none such.");
        for (int i : outside(4)) answers(FOUR_WALLS, "wall(" + i + ", 0)", -1);
        for (int i : outside(4)) answers(FOUR_WALLS, "wall(" + i + ", 1)", -1);
        for (int what : outside(2)) answers(FOUR_WALLS, "wall(0, " + what + ")", -1);
        for (int i : outside(10)) answers(tenTaps(1), "wall(" + i + ", 0)", -1);
        for (String none : new String[] {NEW, TAPLESS, ONE_TAP, TWO_APART, STAR + "place(1, 0) "}) {
            answers(none, "wall(0, 0)", -1);
            answers(none, "wall(0, 1)", -1);
        }
    }

    private static void bound() {
        sentence(25, "THE BOUND, in 1024ths.");
        answers(ONE_TAP, "bound()", 0);
        answers("place(3, 0) ", "bound()", 0);
        answers("place(1, 0) place(1, 0) street(0, 1, 1) ", "bound()", 1024);
        answers("place(1, 0) place(1, 0) street(0, 1, 100) ", "bound()", 102400);
        answers("place(1, 0) place(1, 0) street(0, 1, 100) street(1, 0, 99) ", "bound()", 101376);
        answers(STAR, "bound()", 6144);
        answers(FOUR_WALLS, "bound()", 9728);
        answers(tenTaps(1), "bound()", 5120);
        answers(tenTaps(100), "bound()", 512000);

        sentence(25, "The ROOM of a STREET that joins two PARTS is 1024 times its COST less the SHARES of all WALLS that it crosses (one of its PLACES in them).");
        // The shares of {1} and of {1, 2} fill the street of 3 together; that of {2} is no part of it.
        row("place(3, 0) place(1, 0) place(1, 0) street(1, 2, 2) street(0, 1, 3) street(0, 2, 100) ", "wall(%, 1)", 1024, 1024, 2048);
        answers("place(3, 0) place(1, 0) place(1, 0) street(1, 2, 2) street(0, 1, 3) street(0, 2, 100) ", "bound()", 4096);
        // The street that is within a part crosses its walls no more.
        answers("place(3, 0) place(1, 0) place(1, 0) street(1, 2, 2) street(1, 2, 50) street(0, 1, 3) ", "bound()", 4096);

        sentence(25, "THE BOUND is the sum of all SHARES.");
        answers(FOUR_WALLS, "bound()", 1536 + 1536 + 512 + 6144);
        answers(FOUR_WALLS + "drop(4) ", "bound()", 1536 + 1536 + 512 + 6144);
        answers(FOUR_WALLS + "drop(0) ", "bound()", 1536 + 1536 + 512 + 50 * 1024 - 1536 - 512);

        sentence(25, "NO: as walls().");
        answers(NEW, "bound()", NO);
        answers(TAPLESS, "bound()", NO);
        answers("place(1, 0) place(1, 0) ", "bound()", NO);
        answers(TWO_APART, "bound()", NO);
        answers(STAR + "place(1, 0) ", "bound()", NO);
        answers(STAR + "place(1, 0) undo() ", "bound()", 6144);
        answers("place(1, 0) place(1, 0) street(0, 1, 1) drop(0) ", "bound()", NO);
    }
}
