/** Promises 17 to 22: the hand's tree. */
final class BoundariesOfHand extends Sentences {
    private static final String ONE_TAP = "place(1, 0) place(0, 0) place(0, 0) street(0, 1, 3) street(1, 2, 3) ";
    private static final String TAPLESS = "place(0, 0) place(2, 5) street(0, 1, 1) ";
    /** Three taps in a ring, and the places 3, 4, 5 hung to 2, two of them joined twice. */
    private static final String RINGS = "place(1, 0) place(1, 0) place(1, 0) place(0, 0) place(0, 0) place(0, 0) "
        + "street(0, 1, 4) street(1, 2, 4) street(2, 0, 4) street(3, 4, 1) street(4, 3, 1) street(2, 3, 1) ";

    private BoundariesOfHand() { }

    static void all() {
        lay();
        clear();
        why();
        whyEdges();
        tag();
        trim();
        trimRule();
        better();
        betterOrder();
    }

    /** Ten places in a row, two taps at its ends and such ones between, joined at 100 each, all laid. */
    private static String line(String between) {
        StringBuilder scene = new StringBuilder("place(1, 0) " + between.repeat(8) + "place(3, 0) ");
        for (int p = 0; p < 9; p++) scene.append("street(" + p + ", " + (p + 1) + ", 100) lay(" + p + ") ");
        return scene.toString();
    }

    private static void lay() {
        sentence(17, "A STREET comes into HAND'S TREE, or leaves it: 1, 0.");
        done(RICH, "lay(3)", 1);
        done(RICH, "lay(0)", 0);
        hand(RICH + "lay(3) ", 0, 1, 2, 3, 5);
        hand(RICH + "lay(0) ", 1, 2, 5);
        hand(RICH + "lay(0) lay(0) ", 0, 1, 2, 5);
        done(FULL, "lay(15)", 1);
        done(FULL + "lay(15) ", "lay(15)", 0);
        StringBuilder all = new StringBuilder(SIXTEEN_STREETS);
        for (int s = 0; s < 16; s++) {
            done(all.toString(), "lay(" + s + ")", 1);
            all.append("lay(" + s + ") ");
        }
        answers(all.toString(), "count(4)", 16);
        done(all.toString(), "lay(0)", 0);

        sentence(17, "STATUS 1 (also: it is GONE).");
        for (int s : outside(8)) refused(RICH, "lay(" + s + ")", 1);
        for (int s : outside(16)) refused(FULL, "lay(" + s + ")", 1);
        refused(NEW, "lay(0)", 1);
        refused(RICH, "lay(7)", 1);
        refused(RICH + "drop(0) ", "lay(0)", 1);
        done(RICH + "drop(0) undo() ", "lay(0)", 1);
        refused(RICH + "undo() undo() ", "lay(7)", 1);
    }

    private static void clear() {
        sentence(18, "HAND'S TREE is empty: how many it had.");
        done(RICH, "clear()", 4);
        hand(RICH + "clear() ");
        doneAlone(RICH + "clear() ", "clear()", 0);
        doneAlone(NEW, "clear()", 0);
        StringBuilder all = new StringBuilder(SIXTEEN_STREETS);
        for (int s = 0; s < 16; s++) all.append("lay(" + s + ") ");
        done(all.toString(), "clear()", 16);
        hand(all + "clear() ");
        done(RICH + "drop(0) ", "clear()", 3);
        done(RICH + "undo() ", "clear()", 0);
    }

    private static void why() {
        sentence(19, "Whether HAND'S TREE is a TREE: 0; else, the first that fits: 1 there is a ring, 2 it does not HANG TOGETHER, 3 a TAP lacks, or there is none.");
        answers(RINGS + "lay(0) lay(1) ", "why()", 0);
        answers(RINGS + "lay(0) lay(1) lay(5) lay(3) ", "why()", 0);
        answers(RINGS + "lay(0) lay(1) lay(2) ", "why()", 1);
        answers(RINGS + "lay(0) lay(1) lay(3) ", "why()", 2);
        answers(RINGS + "lay(0) lay(3) ", "why()", 2);
        answers(RINGS + "lay(0) ", "why()", 3);
        answers(RINGS + "lay(5) lay(3) ", "why()", 3);
        answers(TAPLESS + "lay(0) ", "why()", 3);
        // A ring comes before what stands apart, and that before a tap that lacks.
        answers(RINGS + "lay(0) lay(1) lay(2) lay(3) ", "why()", 1);
        answers(RINGS + "lay(0) lay(3) lay(4) ", "why()", 1);
        answers(RINGS + "lay(3) lay(4) ", "why()", 1);
        answers(RINGS + "lay(3) lay(0) ", "why()", 2);
        answers(TAPLESS + "street(1, 0, 1) lay(0) lay(1) ", "why()", 1);
    }

    private static void whyEdges() {
        sentence(19, "without a ring (two that join the same two PLACES are one)");
        answers("place(1, 0) place(1, 0) street(0, 1, 1) street(0, 1, 2) lay(0) lay(1) ", "why()", 1);
        answers("place(1, 0) place(1, 0) street(0, 1, 1) street(1, 0, 2) lay(0) lay(1) ", "why()", 1);
        answers("place(1, 0) place(1, 0) street(0, 1, 1) street(1, 0, 2) lay(1) ", "why()", 0);

        sentence(19, "(of the empty set: the only TAP, if there is just one; else none)");
        answers(ONE_TAP, "why()", 0);
        answers("place(3, 0) ", "why()", 0);
        answers("place(1, 0) place(1, 0) ", "why()", 3);
        answers("place(1, 0) place(3, 0) ", "why()", 3);
        answers(TAPLESS, "why()", 3);
        answers(NEW, "why()", 3);
        answers("place(1, 0) place(1, 0) undo() ", "why()", 0);
        answers("place(1, 0) undo() ", "why()", 3);

        sentence(19, "has all TAPS, and one at least, among its PLACES");
        answers(ONE_TAP + "lay(0) ", "why()", 0);
        answers(ONE_TAP + "lay(1) ", "why()", 3);
        answers(ONE_TAP + "lay(0) lay(1) ", "why()", 0);
        answers(ONE_TAP + "lay(0) lay(1) place(1, 0) ", "why()", 3);
        answers(ONE_TAP + "place(1, 0) street(3, 2, 1) lay(0) lay(1) ", "why()", 3);
        answers(ONE_TAP + "place(1, 0) street(3, 2, 1) lay(0) lay(1) lay(2) ", "why()", 0);

        sentence(19, "HANGS TOGETHER if from each PLACE at the end of one of them its STREETS lead to each other such PLACE");
        String laid = line("place(0, 0) ");
        answers(laid, "why()", 0);
        answers(laid + "lay(4) ", "why()", 2);
        answers(laid + "lay(8) ", "why()", 3);
        answers(laid + "street(9, 0, 1) lay(9) ", "why()", 1);
        answers(laid + "drop(4) ", "why()", 2);
        answers(laid + "clear() lay(0) lay(8) ", "why()", 2);
    }

    private static void tag() {
        sentence(20, "The PRICE TAG of HAND'S TREE.");
        answers(RICH, "tag()", 11);
        answers("place(1, 0) place(2, 5) place(4, 5) place(1, 0) street(0, 1, 2) street(1, 2, 3) street(2, 3, 4) lay(0) lay(1) lay(2) ", "tag()", 9);
        answers("place(1, 0) place(2, 100) street(0, 1, 1) lay(0) ", "tag()", -99);
        answers("place(1, 0) place(4, 100) street(0, 1, 100) lay(0) ", "tag()", 200);
        answers("place(2, 100) place(1, 0) street(0, 1, 1) lay(0) ", "tag()", -99);
        answers("place(4, 100) place(1, 0) street(0, 1, 100) lay(0) ", "tag()", 200);
        answers(line("place(4, 100) "), "tag()", 1700);
        answers(line("place(2, 100) "), "tag()", 100);
        answers(ONE_TAP, "tag()", 0);
        answers("place(3, 0) place(2, 5) place(4, 5) ", "tag()", 0);

        sentence(20, "NO: it is no TREE.");
        answers(NEW, "tag()", NO);
        answers(TAPLESS, "tag()", NO);
        answers(TAPLESS + "lay(0) ", "tag()", NO);
        answers("place(1, 0) place(1, 0) ", "tag()", NO);
        answers(RINGS + "lay(0) lay(1) lay(2) ", "tag()", NO);
        answers(RINGS + "lay(0) lay(1) lay(3) ", "tag()", NO);
        answers(RINGS + "lay(0) ", "tag()", NO);
        answers(RICH + "drop(0) ", "tag()", NO);
    }

    private static void trim() {
        sentence(21, "It is TRIMMED: how many STREETS went.");
        done(RICH, "trim()", 1);
        hand(RICH + "trim() ", 0, 1, 2);
        doneAlone(RICH + "trim() ", "trim()", 0);
        doneAlone(ONE_TAP, "trim()", 0);
        done(ONE_TAP + "lay(0) lay(1) ", "trim()", 2);
        hand(ONE_TAP + "lay(0) lay(1) trim() ");
        String line = "place(0, 0) ".repeat(9) + "place(1, 0) ";
        for (int p = 0; p < 9; p++) line += "street(" + p + ", " + (p + 1) + ", 1) lay(" + p + ") ";
        done(line, "trim()", 9);
        hand(line + "trim() ");
        answers(line + "trim() ", "why()", 0);

        sentence(21, "STATUS 3 (it is no TREE).");
        refused(NEW, "trim()", 3);
        refused(TAPLESS, "trim()", 3);
        refused(TAPLESS + "lay(0) ", "trim()", 3);
        refused("place(1, 0) place(1, 0) ", "trim()", 3);
        refused(RINGS + "lay(0) lay(1) lay(2) lay(5) ", "trim()", 3);
        refused(RINGS + "lay(0) lay(1) lay(3) ", "trim()", 3);
        refused(RINGS + "lay(0) lay(5) ", "trim()", 3);
        refused(RICH + "drop(0) ", "trim()", 3);
        refused(RICH + "lay(3) lay(4) ", "trim()", 3);
    }

    private static void trimRule() {
        sentence(21, "whose STREET costs more than or as much as the WORTH of the PLACE");
        for (int cost : new int[] {1, 3, 4}) doneAlone("place(1, 0) place(2, 5) street(0, 1, " + cost + ") lay(0) ", "trim()", 0);
        for (int cost : new int[] {5, 6, 100}) done("place(1, 0) place(2, 5) street(0, 1, " + cost + ") lay(0) ", "trim()", 1);
        doneAlone("place(1, 0) place(2, 100) street(0, 1, 99) lay(0) ", "trim()", 0);
        done("place(1, 0) place(2, 100) street(0, 1, 100) lay(0) ", "trim()", 1);
        done("place(1, 0) place(2, 1) street(0, 1, 1) lay(0) ", "trim()", 1);

        sentence(21, "(0 of others but WISHES; a GATE's PRICE is added to the STREET's COST)");
        done("place(1, 0) place(0, 0) street(0, 1, 1) lay(0) ", "trim()", 1);
        done("place(1, 0) place(4, 1) street(0, 1, 1) lay(0) ", "trim()", 1);
        done("place(1, 0) place(4, 100) street(0, 1, 1) lay(0) ", "trim()", 1);
        // The gate stays while a wish hangs behind it, whatever the gate costs.
        doneAlone("place(1, 0) place(4, 100) place(2, 5) street(0, 1, 100) street(1, 2, 4) lay(0) lay(1) ", "trim()", 0);
        done("place(1, 0) place(4, 100) place(2, 5) street(0, 1, 100) street(1, 2, 5) lay(0) lay(1) ", "trim()", 2);

        sentence(21, "of the PLACES that have just one STREET in it, are no TAP");
        doneAlone("place(1, 0) place(1, 0) place(3, 0) street(0, 1, 100) street(1, 2, 100) lay(0) lay(1) ", "trim()", 0);
        doneAlone("place(1, 0) place(0, 0) place(1, 0) street(0, 1, 100) street(1, 2, 100) lay(0) lay(1) ", "trim()", 0);
        // A street that is there and not laid does not count.
        done("place(1, 0) place(0, 0) street(0, 1, 1) street(1, 0, 1) lay(1) ", "trim()", 1);

        sentence(21, "the one with the lowest number goes with its STREET; again, till there is none");
        String wishes = "place(1, 0) place(2, 7) place(2, 4) place(4, 1) place(0, 0) place(2, 100) "
            + "street(0, 1, 6) street(1, 2, 4) street(0, 3, 1) street(3, 4, 1) street(0, 5, 100) lay(0) lay(1) lay(2) lay(3) lay(4) ";
        done(wishes, "trim()", 4);
        hand(wishes + "trim() ", 0);
        doneAlone(wishes + "trim() ", "trim()", 0);
        // 1 is worth less than its street, but can go no sooner than 2; the tap stays at the end.
        String chain = "place(1, 0) place(2, 5) place(2, 3) street(0, 1, 5) street(1, 2, 3) lay(0) lay(1) ";
        done(chain, "trim()", 2);
        hand(chain + "trim() ");
        doneAlone(chain.replace("street(1, 2, 3)", "street(1, 2, 2)"), "trim()", 0);
    }

    private static void better() {
        sentence(22, "it is a TREE with a lower PRICE TAG: that is done: by how much it fell; 0: there is no such pair.");
        String two = "place(1, 0) place(1, 0) street(0, 1, 5) ";
        doneAlone(two + "street(0, 1, 6) lay(0) ", "better()", 0);
        doneAlone(two + "street(0, 1, 5) lay(0) ", "better()", 0);
        done(two + "street(0, 1, 4) lay(0) ", "better()", 1);
        hand(two + "street(0, 1, 4) lay(0) better() ", 1);
        done(two + "street(0, 1, 1) lay(0) ", "better()", 4);
        doneAlone(two + "street(0, 1, 1) lay(0) better() ", "better()", 0);
        doneAlone(two + "lay(0) ", "better()", 0);
        doneAlone(ONE_TAP, "better()", 0);
        doneAlone(ONE_TAP + "lay(0) lay(1) ", "better()", 0);
        // It falls by the most that one street can bring: 100 and a gate of 100 for 1 and a wish of 100.
        done("place(1, 0) place(4, 100) place(2, 100) street(0, 1, 100) street(0, 2, 1) lay(0) ", "better()", 299);
        // A ring, a part that stands apart, a tap that lacks are cheaper, but no tree.
        doneAlone("place(1, 0) place(1, 0) place(0, 0) street(0, 1, 9) street(0, 2, 1) lay(0) ", "better()", 0);
        doneAlone("place(1, 0) place(1, 0) place(0, 0) place(0, 0) street(0, 1, 9) street(2, 3, 1) lay(0) ", "better()", 0);
        doneAlone("place(1, 0) place(1, 0) place(1, 0) street(0, 1, 2) street(1, 2, 9) street(0, 1, 1) lay(2) lay(1) ", "better()", 0);

        sentence(22, "Of all pairs of a STREET that is there and not in HAND'S TREE, and one that is in it");
        doneAlone(two + "street(0, 1, 1) lay(0) drop(1) ", "better()", 0);
        done(two + "street(0, 1, 1) drop(1) undo() lay(0) ", "better()", 4);

        sentence(22, "STATUS 3 (it is no TREE).");
        refused(NEW, "better()", 3);
        refused(TAPLESS, "better()", 3);
        refused(two + "street(0, 1, 1) ", "better()", 3);
        refused(two + "street(0, 1, 1) lay(0) lay(1) ", "better()", 3);
        refused(RINGS + "lay(0) lay(1) lay(3) ", "better()", 3);
        refused(RINGS + "lay(0) lay(5) ", "better()", 3);
        refused(RICH + "drop(0) ", "better()", 3);
    }

    private static void betterOrder() {
        sentence(22, "Of all pairs of a STREET that is there and not in HAND'S TREE, and one that is in it, by the first, then the second one's number, "
            + "the first one by which, the one put in, the other taken out, it is a TREE with a lower PRICE TAG");
        // 0 comes in before 2, though 2 is cheaper.
        String first = "place(1, 0) place(1, 0) street(0, 1, 3) street(0, 1, 5) street(0, 1, 2) lay(1) ";
        done(first, "better()", 2);
        hand(first + "better() ", 0);
        done(first + "better() ", "better()", 1);
        hand(first + "better() better() ", 2);
        // 2 may come for 0 or for 1: 0 goes, though 1 is dearer.
        String second = "place(1, 0) place(1, 0) place(1, 0) street(0, 1, 8) street(1, 2, 9) street(0, 2, 4) lay(0) lay(1) ";
        done(second, "better()", 4);
        hand(second + "better() ", 1, 2);
        // 2 for 0 brings nothing, 2 for 1 does: the same first one, the next second one.
        String next = "place(1, 0) place(1, 0) place(1, 0) street(0, 1, 4) street(1, 2, 9) street(0, 2, 4) lay(0) lay(1) ";
        done(next, "better()", 5);
        hand(next + "better() ", 0, 2);
        // 1 for 3 comes before 2 for 0.
        String later = "place(1, 0) place(1, 0) place(1, 0) street(0, 1, 9) street(1, 2, 4) street(0, 1, 1) street(2, 1, 5) lay(0) lay(3) ";
        done(later, "better()", 1);
        hand(later + "better() ", 0, 1);
    }
}
