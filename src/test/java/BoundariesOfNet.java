/** Promises 1 to 8: places and streets, what is told of them, and what can be taken back. */
final class BoundariesOfNet extends Sentences {
    private static final String TWO = "place(1, 0) place(1, 0) ";
    private static final String ONE_STREET = TWO + "street(0, 1, 4) ";

    private BoundariesOfNet() { }

    static void all() {
        newObject();
        placeKinds();
        placeRoom();
        streetNumbers();
        streetRoom();
        drop();
        undoLatest();
        undoTenAtMost();
        undoEmptiesHand();
        undoNone();
        told();
        streetTold();
        count();
    }

    private static void newObject() {
        sentence(1, "No PLACES, no STREETS, all MAPS missing.");
        for (int what = 0; what <= 6; what++) answers(NEW, "count(" + what + ")", 0);
        for (int what = 0; what <= 2; what++) answers(NEW, "told(0, " + what + ")", -1);
        for (int what = 0; what <= 4; what++) answers(NEW, "streetTold(0, " + what + ")", -1);
        for (int map = 0; map < 5; map++) {
            refused(NEW, "cell(" + map + ", 0, 1)", 10);
            refused(NEW, "forge(2, 0, " + map + ")", 10);
            refused(NEW, "forge(3, 0, " + map + ")", 10);
            for (int sort = 0; sort < 3; sort++) refused(NEW, "fromMap(" + map + ", " + sort + ", 0)", 10);
        }
        sentence(1, "or missing (as all are at first)");
        refused(NEW, "cell(0, -1, 1)", 10);
        refused("map(0, 1, 1) ", "cell(1, 0, 1)", 10);

        sentence(1, "An object is used for at most 512 calls after it has been made");
        String often = "place(1, 0) undo() ".repeat(200);
        String net = often + "place(1, 0) place(3, 0) place(2, 6) street(0, 1, 9) street(0, 2, 1) street(2, 1, 2) ";
        lastAnswers(net, "least()", -3);
        lastAnswers(net, "bound()", 3072);
        lastAnswers(net + "lay(0) ", "better()", 0);
        lastAnswers(net + "lay(1) lay(2) ", "tag()", -3);
        lastAnswers(net + "!place(3, 0) ", "status()", 3);
        lastAnswers(net, "place(4, 100)", 3);
        lastAnswers(net + "undo() ".repeat(5), "undo()", 1);
        sentence(1, "what later calls answer is free");
        neverThrows(FULL + "undo() drop(0) street(0, 9, 5) many() walls() act(0, 3, 1) lay(1) better() trim() ", 2000);
    }

    private static void placeKinds() {
        sentence(2, "A PLACE of a KIND with a WORTH or PRICE (KINDS 2, 4; of others it does not matter): its number.");
        for (int kind : new int[] {0, 1, 3}) {
            for (int worth : new int[] {MIN, -1, 0, 1, 100, 101, MAX}) {
                done(TWO, "place(" + kind + ", " + worth + ")", 2);
                answers(TWO + "place(" + kind + ", " + worth + ") ", "told(2, 1)", 0);
                answers(TWO + "place(" + kind + ", " + worth + ") ", "told(2, 0)", kind);
            }
        }
        sentence(2, "it has a WORTH (1 .. 100)");
        amounts(2);
        sentence(2, "it has a PRICE (1 .. 100)");
        amounts(4);

        sentence(2, "STATUS 1, 2, 3 (a second WELL).");
        for (int kind : outside(5)) refused(RICH, "place(" + kind + ", 5)", 1);
        for (int kind : outside(5)) refused(NEW, "place(" + kind + ", 0)", 1);
        done(NEW, "place(0, 5)", 0);
        done(NEW, "place(4, 5)", 0);
        refused(TEN_PLACES, "place(0, 0)", 2);
        refused(RICH, "place(3, 0)", 3);

        sentence(2, "there is one WELL at most");
        done(NEW, "place(3, 0)", 0);
        refused("place(3, 0) ", "place(3, 0)", 3);
        refused("place(3, 0) place(1, 0) undo() ", "place(3, 0)", 3);
        done("place(3, 0) undo() ", "place(3, 0)", 0);
        done("place(0, 0) ".repeat(9), "place(3, 0)", 9);
        refused("place(0, 0) ".repeat(8) + "place(3, 0) ", "place(3, 0)", 3);
        done("place(0, 0) ".repeat(9) + "place(3, 0) undo() ", "place(3, 0)", 9);
    }

    private static void amounts(int kind) {
        for (int worth : new int[] {MIN, -100, -1, 0, 101, 102, MAX}) refused(RICH, "place(" + kind + ", " + worth + ")", 1);
        for (int worth : new int[] {1, 2, 99, 100}) {
            done(RICH, "place(" + kind + ", " + worth + ")", 6);
            answers(RICH + "place(" + kind + ", " + worth + ") ", "told(6, 1)", worth);
        }
    }

    private static void placeRoom() {
        sentence(2, "PLACES 0 .. 9 and STREETS 0 .. 15 are numbered as they come (10 and 16 at most).");
        for (int n = 0; n < 10; n++) done("place(1, 0) ".repeat(n), "place(0, 0)", n);
        for (int kind = 0; kind < 5; kind++) refused(TEN_PLACES, "place(" + kind + ", 5)", 2);
        refused(FULL, "place(0, 0)", 2);
        answers(FULL + "!place(0, 0) ", "count(0)", 10);
        answers(FULL + "!place(0, 0) ", "told(10, 0)", -1);
        done(TEN_PLACES + "undo() ", "place(4, 1)", 9);
        refused(TEN_PLACES + "undo() place(4, 1) ", "place(4, 1)", 2);

        sentence(2, "Where several hold, the lowest.");
        refused(FULL, "place(5, 0)", 1);
        refused(FULL, "place(-1, 0)", 1);
        refused(FULL, "place(2, 101)", 1);
        refused(FULL, "place(4, 0)", 1);
        refused(FULL, "place(3, 0)", 2);
    }

    private static void streetNumbers() {
        sentence(3, "A STREET: its number.");
        done(RICH, "street(0, 5, 1)", 8);
        answers(RICH + "street(5, 0, 2) ", "streetTold(8, 0)", 5);
        answers(RICH + "street(5, 0, 2) ", "streetTold(8, 1)", 0);
        done(TWO, "street(1, 0, 5)", 0);

        sentence(3, "STATUS 1 (also a = b), 2.");
        for (int p = 0; p < 6; p++) refused(RICH, "street(" + p + ", " + p + ", 5)", 1);
        for (int p : outside(6)) {
            refused(RICH, "street(" + p + ", 0, 5)", 1);
            refused(RICH, "street(0, " + p + ", 5)", 1);
            refused(RICH, "street(" + p + ", " + p + ", 5)", 1);
        }
        refused(TEN_PLACES, "street(10, 0, 5)", 1);
        done(TEN_PLACES, "street(9, 0, 5)", 0);
        refused(NEW, "street(0, 1, 5)", 1);
        refused("place(0, 0) ", "street(0, 1, 5)", 1);
        refused(TWO + "undo() ", "street(0, 1, 5)", 1);

        sentence(3, "at a COST (1 .. 100)");
        for (int cost : new int[] {MIN, -100, -1, 0, 101, 102, MAX}) refused(RICH, "street(0, 1, " + cost + ")", 1);
        for (int cost : new int[] {1, 2, 99, 100}) {
            done(RICH, "street(0, 1, " + cost + ")", 8);
            answers(RICH + "street(0, 1, " + cost + ") ", "streetTold(8, 2)", cost);
        }
    }

    private static void streetRoom() {
        sentence(3, "PLACES 0 .. 9 and STREETS 0 .. 15 are numbered as they come (10 and 16 at most).");
        for (int n = 0; n < 16; n++) done(TEN_PLACES + "street(0, 1, 5) ".repeat(n), "street(8, 9, 5)", n);
        refused(SIXTEEN_STREETS, "street(8, 9, 5)", 2);
        refused(FULL, "street(8, 9, 5)", 2);
        refused(SIXTEEN_STREETS + "drop(3) ", "street(8, 9, 5)", 2);
        refused(SIXTEEN_STREETS + "drop(15) ", "street(8, 9, 5)", 2);
        done(SIXTEEN_STREETS + "undo() ", "street(8, 9, 5)", 15);
        done(SIXTEEN_STREETS + "drop(15) undo() undo() ", "street(8, 9, 5)", 15);
        answers(FULL + "!street(8, 9, 5) ", "streetTold(16, 0)", -1);

        sentence(3, "A STREET joins two unlike PLACES");
        refused(TEN_PLACES, "street(9, 9, 5)", 1);
        done(TEN_PLACES, "street(9, 8, 5)", 0);
        done(TEN_PLACES, "street(8, 9, 5)", 0);

        sentence(3, "(a first and a second one; several may join the same two)");
        done(ONE_STREET, "street(0, 1, 4)", 1);
        done(ONE_STREET, "street(1, 0, 4)", 1);
        answers(SIXTEEN_STREETS, "told(0, 2)", 16);
        answers(SIXTEEN_STREETS, "told(9, 2)", 16);

        sentence(3, "Where several hold, the lowest.");
        refused(FULL, "street(3, 3, 5)", 1);
        refused(FULL, "street(0, 10, 5)", 1);
        refused(FULL, "street(0, 1, 0)", 1);
        refused(FULL, "street(0, 1, 101)", 1);
    }

    private static void drop() {
        sentence(4, "A STREET is GONE (from HAND'S TREE, too): 1.");
        done(RICH, "drop(0)", 1);
        done(FULL, "drop(15)", 1);
        hand(RICH, 0, 1, 2, 5);
        hand(RICH + "drop(0) ", 1, 2, 5);
        hand(RICH + "drop(5) ", 0, 1, 2);
        hand(RICH + "drop(3) ", 0, 1, 2, 5);
        answers(RICH + "drop(0) ", "streetTold(0, 3)", 0);
        answers(RICH + "drop(0) ", "streetTold(0, 4)", 0);
        answers(RICH + "drop(0) ", "streetTold(0, 2)", 4);
        answers(RICH + "drop(0) ", "told(0, 2)", 1);
        answers(RICH + "drop(0) ", "count(1)", 8);
        answers(RICH + "drop(0) ", "count(2)", 6);
        answers(ONE_STREET + "drop(0) ", "count(2)", 0);

        sentence(4, "STATUS 1, 3 (it is).");
        for (int street : outside(8)) refused(RICH, "drop(" + street + ")", 1);
        for (int street : outside(16)) refused(FULL, "drop(" + street + ")", 1);
        refused(NEW, "drop(0)", 1);
        refused(ONE_STREET + "undo() ", "drop(0)", 1);
        refused(RICH, "drop(7)", 3);
        refused(ONE_STREET + "drop(0) ", "drop(0)", 3);
        done(ONE_STREET + "drop(0) undo() ", "drop(0)", 1);
        refused(FULL + "drop(15) ", "drop(15)", 3);
    }

    private static void undoLatest() {
        sentence(5, "The latest of place, street, drop, fromMap that was done and was not taken back is taken back, 10 at most (HAND'S TREE is empty then): 1.");
        done(RICH, "undo()", 1);
        for (String change : new String[] {"place(2, 5) ", "street(0, 1, 5) ", "drop(3) ", "fromMap(0, 0, 1) "}) {
            done(RICH + "clear() " + change, "undo()", 1);
            // Eight changes before it, so that two more fit and none is forgotten for their sake.
            String few = TWO + "place(2, 5) place(4, 5) street(0, 1, 5) street(1, 2, 5) street(2, 3, 5) street(3, 0, 5) "
                + "map(0, 0, 4) cell(0, 1, 3) cell(0, 2, 1) cell(0, 3, 100) ";
            same(few + change + "undo() ", few);
            same(few + change + change.replace("drop(3)", "drop(2)") + "undo() undo() ", few);
        }
        answers(RICH + "place(2, 5) undo() ", "told(6, 0)", -1);
        answers(RICH + "street(0, 1, 5) undo() ", "streetTold(8, 0)", -1);
        answers(RICH + "drop(3) undo() ", "streetTold(3, 3)", 1);
        answers(RICH + "fromMap(0, 0, 1) undo() ", "streetTold(8, 0)", -1);
        undoOthers();
    }

    private static void undoOthers() {
        sentence(5, "that was done and was not taken back is taken back");
        String refusals = "!place(5, 5) !street(0, 0, 5) !drop(7) !fromMap(3, 0, 0) ";
        answers(RICH + refusals + "undo() ", "streetTold(7, 3)", 1);
        answers(RICH + refusals + "undo() undo() ", "count(1)", 7);
        String others = "lay(3) clear() lay(0) lay(1) lay(2) trim() better() map(3, 0, 1) cell(3, 0, 1) act(0, 0, 0) forge(1, 0, 0) ";
        answers(RICH + others + "undo() ", "streetTold(7, 3)", 1);
        answers(ONE_STREET + "undo() ", "count(1)", 0);
        answers(ONE_STREET + "undo() street(1, 0, 9) undo() ", "count(1)", 0);
        answers(ONE_STREET + "undo() street(1, 0, 9) undo() undo() ", "count(0)", 1);
        // What was taken back is not taken back again: the next undo() goes one further.
        answers(ONE_STREET + "drop(0) undo() ", "count(2)", 1);
        answers(ONE_STREET + "drop(0) undo() undo() ", "count(1)", 0);
        // Maps, the trace and the status of undo() itself stay aside.
        doneAlone(RICH + "undo() ", "forge(2, 2, 1)", 50);
        answers(RICH + "undo() ", "count(5)", 7);
    }

    private static void undoTenAtMost() {
        sentence(5, "10 at most");
        for (int n = 0; n <= 10; n++) answers("place(0, 0) ".repeat(n), "count(6)", n);
        String eleven = TEN_PLACES + "street(0, 1, 5) ";
        answers(eleven, "count(6)", 10);
        answers(eleven + "street(0, 1, 5) ", "count(6)", 10);
        done(TEN_PLACES + "undo() ".repeat(9), "undo()", 1);
        refused(TEN_PLACES + "undo() ".repeat(10), "undo()", 3);
        done(eleven + "undo() ".repeat(9), "undo()", 1);
        refused(eleven + "undo() ".repeat(10), "undo()", 3);
        answers(eleven + "undo() ".repeat(10), "count(0)", 1);
        for (int n = 0; n <= 10; n++) answers(eleven + "undo() ".repeat(n), "count(6)", 10 - n);
        // The first place is forgotten for good: making room again does not bring it back.
        refused(eleven + "undo() street(0, 1, 5) " + "undo() ".repeat(10), "undo()", 3);
        answers(eleven + "undo() ".repeat(10) + "place(2, 9) ", "count(6)", 1);
        done(eleven + "undo() ".repeat(10) + "place(2, 9) ", "undo()", 1);
        refused(eleven + "undo() ".repeat(10) + "place(2, 9) undo() ", "undo()", 3);
        answers(eleven + "undo() ".repeat(10) + "!undo() ", "count(0)", 1);

        StringBuilder drops = new StringBuilder(SIXTEEN_STREETS);
        for (int s = 0; s < 16; s++) drops.append("drop(" + s + ") ");
        answers(drops.toString(), "count(6)", 10);
        answers(drops + "undo() ".repeat(10), "count(2)", 10);
        answers(drops + "undo() ".repeat(10), "streetTold(6, 3)", 1);
        answers(drops + "undo() ".repeat(10), "streetTold(5, 3)", 0);
        refused(drops + "undo() ".repeat(10), "undo()", 3);
    }

    private static void undoEmptiesHand() {
        sentence(5, "(HAND'S TREE is empty then)");
        hand(RICH + "undo() ");
        for (String change : new String[] {"place(2, 5) ", "street(0, 1, 5) ", "drop(3) ", "drop(0) ", "fromMap(0, 0, 1) "}) {
            hand(RICH + change + "undo() ");
        }
        answers(RICH + "undo() ", "why()", 3);
        hand("place(3, 0) place(1, 0) street(0, 1, 4) lay(0) undo() ");
        hand("place(3, 0) place(1, 0) street(0, 1, 4) undo() street(0, 1, 4) ");
        hand(RICH + "undo() lay(7) ", 7);
    }

    private static void undoNone() {
        sentence(5, "STATUS 3 (there is none).");
        refused(NEW, "undo()", 3);
        refused("!place(5, 0) ", "undo()", 3);
        refused("place(0, 0) undo() ", "undo()", 3);
        refused("map(0, 0, 3) cell(0, 0, 1) clear() forge(1, 0, 0) ", "undo()", 3);
        done("place(0, 0) undo() !undo() place(0, 0) ", "undo()", 1);
        // All ten are taken back, the hand's tree laid since is not emptied by what is refused.
        String laidSince = FULL + "undo() ".repeat(10) + "lay(0) lay(5) ";
        refused(laidSince, "undo()", 3);
        hand(laidSince + "!undo() ", 0, 5);
    }

    private static void told() {
        sentence(6, "Of a PLACE: 0 KIND, 1 WORTH or PRICE (0), 2 how many STREETS that are there end at it.");
        int[][] rich = {{3, 0, 2}, {1, 0, 2}, {2, 7, 2}, {4, 3, 2}, {0, 0, 2}, {1, 0, 4}};
        for (int p = 0; p < 6; p++) row(RICH, "told(" + p + ", %)", rich[p]);
        row(FULL, "told(7, %)", 2, 100, 3);
        row(FULL, "told(8, %)", 4, 100, 2);
        row(FULL, "told(9, %)", 0, 0, 4);
        row(TEN_PLACES, "told(9, %)", 0, 0, 0);
        row(SIXTEEN_STREETS, "told(9, %)", 0, 0, 16);
        row(SIXTEEN_STREETS + "drop(0) drop(15) ", "told(0, %)", 0, 0, 14);
        row(SIXTEEN_STREETS + "drop(0) undo() ", "told(0, %)", 0, 0, 16);

        sentence(6, "-1: no such.");
        for (int what = 0; what <= 2; what++) {
            for (int p : outside(0)) answers(NEW, "told(" + p + ", " + what + ")", -1);
            for (int p : outside(6)) answers(RICH, "told(" + p + ", " + what + ")", -1);
            for (int p : outside(10)) answers(FULL, "told(" + p + ", " + what + ")", -1);
        }
        for (int what : outside(3)) answers(RICH, "told(2, " + what + ")", -1);
        for (int what : outside(3)) answers(RICH, "told(6, " + what + ")", -1);
    }

    private static void streetTold() {
        sentence(7, "Of a STREET: 0 first PLACE, 1 second, 2 COST, 3 whether it is there (1, 0), 4 whether it is in HAND'S TREE.");
        row(RICH, "streetTold(0, %)", 0, 1, 4, 1, 1);
        row(RICH, "streetTold(3, %)", 0, 3, 2, 1, 0);
        row(RICH, "streetTold(6, %)", 5, 4, 3, 1, 0);
        row(RICH, "streetTold(7, %)", 1, 5, 9, 0, 0);
        row(RICH + "undo() ", "streetTold(7, %)", 1, 5, 9, 1, 0);
        row(FULL, "streetTold(15, %)", 9, 4, 1, 1, 0);
        row(FULL + "lay(15) ", "streetTold(15, %)", 9, 4, 1, 1, 1);
        row(FULL + "lay(15) drop(15) ", "streetTold(15, %)", 9, 4, 1, 0, 0);

        sentence(7, "it is there till it is GONE");
        answers(ONE_STREET, "streetTold(0, 3)", 1);
        answers(ONE_STREET + "drop(0) ", "streetTold(0, 3)", 0);
        answers(ONE_STREET + "drop(0) street(0, 1, 4) ", "streetTold(0, 3)", 0);
        answers(ONE_STREET + "drop(0) undo() ", "streetTold(0, 3)", 1);

        sentence(7, "-1: no such.");
        for (int what = 0; what <= 4; what++) {
            for (int s : outside(0)) answers(NEW, "streetTold(" + s + ", " + what + ")", -1);
            for (int s : outside(8)) answers(RICH, "streetTold(" + s + ", " + what + ")", -1);
            for (int s : outside(16)) answers(FULL, "streetTold(" + s + ", " + what + ")", -1);
        }
        answers(ONE_STREET + "undo() ", "streetTold(0, 0)", -1);
        for (int what : outside(5)) answers(RICH, "streetTold(0, " + what + ")", -1);
    }

    private static void count() {
        sentence(8, "How many: 0 PLACES, 1 STREETS that came, 2 that are there, 3 TAPS, 4 STREETS in HAND'S TREE, 5 THE TRACE's bodies, 6 what can be undone.");
        row(NEW, "count(%)", 0, 0, 0, 0, 0, 0, 0);
        row(RICH, "count(%)", 6, 8, 7, 3, 4, 7, 10);
        row(FULL, "count(%)", 10, 16, 15, 4, 4, 7, 10);
        row("place(1, 0) ".repeat(10), "count(%)", 10, 0, 0, 10, 0, 0, 10);
        row(SIXTEEN_STREETS + "lay(0) lay(15) drop(15) ", "count(%)", 10, 16, 15, 0, 1, 0, 10);
        row(ONE_STREET + "drop(0) undo() undo() ", "count(%)", 2, 0, 0, 2, 0, 0, 2);

        sentence(8, "TAPS are all of KINDS 1 and 3");
        for (int kind = 0; kind < 5; kind++) answers("place(" + kind + ", 5) ", "count(3)", kind == 1 || kind == 3 ? 1 : 0);
        answers("place(3, 0) " + "place(1, 0) ".repeat(9), "count(3)", 10);
        answers("place(1, 0) place(3, 0) undo() ", "count(3)", 1);

        sentence(8, "-1: another.");
        for (int what : outside(7)) {
            answers(NEW, "count(" + what + ")", -1);
            answers(FULL, "count(" + what + ")", -1);
        }
    }
}
