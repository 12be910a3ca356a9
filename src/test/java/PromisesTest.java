/** Each promise of the document by hand: ordinary inputs, the edges that it names, wrong inputs. */
public final class PromisesTest {
    private static final int NO = -1000000;
    private static final int MIN = Integer.MIN_VALUE;
    private static final int MAX = Integer.MAX_VALUE;
    private static int wrong = 0;

    private static void due(int promise, String call, int got, int want) {
        if (got != want) {
            wrong++;
            System.out.println("promise " + promise + ": " + call + " answered " + got + ", due is " + want);
        }
    }

    private static void rows(int promise, String calls, int[] got, int... want) {
        due(promise, calls + " (how many)", got.length, want.length);
        for (int i = 0; i < Math.min(got.length, want.length); i++) due(promise, calls + " [" + i + "]", got[i], want[i]);
    }

    /** The call was refused with this status. */
    private static void refused(int promise, String call, DripLines x, int got, int status) {
        due(promise, call, got, -1);
        due(promise, "status() after " + call, x.status(), status);
    }

    /** The call was done with this answer. */
    private static void done(int promise, String call, DripLines x, int got, int want) {
        due(promise, call, got, want);
        due(promise, "status() after " + call, x.status(), 0);
    }

    private static void places(DripLines x, int... kinds) {
        for (int kind : kinds) x.place(kind, 5);
    }

    /** Streets as triples of first place, second place, cost. */
    private static void streets(DripLines x, int... triples) {
        for (int i = 0; i + 2 < triples.length; i += 3) x.street(triples[i], triples[i + 1], triples[i + 2]);
    }

    private static void layAll(DripLines x, int... streets) {
        for (int street : streets) x.lay(street);
    }

    private static DripLines net(int[] kinds, int... triples) {
        DripLines x = new DripLines();
        places(x, kinds);
        streets(x, triples);
        return x;
    }

    private static int[] kinds(int... kinds) { return kinds; }

    /** Three taps (0 the well) each 4 from each other, and place 3 that is 2 from each. */
    private static DripLines star() {
        return net(kinds(3, 1, 1, 0), 0, 1, 4, 1, 2, 4, 0, 2, 4, 0, 3, 2, 1, 3, 2, 2, 3, 2);
    }

    private static DripLines full() {
        DripLines x = net(kinds(0, 0, 0, 0, 0, 0, 0, 0, 0, 0));
        for (int s = 0; s < 16; s++) x.street(s % 9, 9, 1 + s);
        return x;
    }

    private static int[] counts(DripLines x) {
        int[] all = new int[7];
        for (int what = 0; what < 7; what++) all[what] = x.count(what);
        return all;
    }

    private static int[] wayOf(DripLines x, int a, int b) {
        int n = 0;
        while (n < 12 && x.way(a, b, n) != -1) n++;
        int[] row = new int[n];
        for (int i = 0; i < n; i++) row[i] = x.way(a, b, i);
        return row;
    }

    private static int[] bestOf(DripLines x, int k) {
        int n = 0;
        while (n < 17 && x.best(k, n) != -1) n++;
        int[] row = new int[n];
        for (int i = 0; i < n; i++) row[i] = x.best(k, i);
        return row;
    }

    private static int[] handOf(DripLines x) {
        int[] row = new int[x.count(4)];
        int n = 0;
        for (int s = 0; s < 16 && n < row.length; s++) if (x.streetTold(s, 4) == 1) row[n++] = s;
        return row;
    }

    private static int[] traceOf(DripLines x) {
        int[] row = new int[x.count(5)];
        for (int i = 0; i < row.length; i++) row[i] = x.trace(i);
        return row;
    }

    private static void newObject() {
        DripLines x = new DripLines();
        rows(1, "count(0 .. 6)", counts(x), 0, 0, 0, 0, 0, 0, 0);
        due(1, "status()", x.status(), 0);
        for (int map = 0; map < 5; map++) refused(1, "cell of a missing map", x, x.cell(map, 0, 1), 10);
        due(1, "told(0, 0)", x.told(0, 0), -1);
        due(1, "streetTold(0, 0)", x.streetTold(0, 0), -1);
        due(1, "trace(0)", x.trace(0), -1);
        due(1, "why()", x.why(), 3);
        due(1, "NONE", DripLines.NONE, -1);
        due(1, "NO", DripLines.NO, NO);
    }

    private static void place() {
        DripLines x = new DripLines();
        for (int kind : new int[] {-1, 5, MIN, MAX}) refused(2, "place(kind " + kind + ", 5)", x, x.place(kind, 5), 1);
        for (int kind : new int[] {2, 4}) {
            for (int worth : new int[] {0, -1, 101, MIN, MAX}) {
                refused(2, "place(" + kind + ", " + worth + ")", x, x.place(kind, worth), 1);
            }
        }
        done(2, "place(2, 1)", x, x.place(2, 1), 0);
        done(2, "place(2, 100)", x, x.place(2, 100), 1);
        done(2, "place(4, 1)", x, x.place(4, 1), 2);
        done(2, "place(4, 100)", x, x.place(4, 100), 3);
        done(2, "place(0, -7)", x, x.place(0, -7), 4);
        done(2, "place(1, 1000)", x, x.place(1, 1000), 5);
        done(2, "place(3, MIN)", x, x.place(3, MIN), 6);
        refused(2, "a second well", x, x.place(3, 0), 3);
        due(2, "count(0)", x.count(0), 7);
        places(x, 0, 0);
        done(2, "the tenth place", x, x.place(0, 0), 9);
        refused(2, "the eleventh place", x, x.place(0, 0), 2);
        refused(2, "an eleventh place, a second well", x, x.place(3, 0), 2);
        refused(2, "an eleventh place, a wish of 101", x, x.place(2, 101), 1);
        due(2, "count(0)", x.count(0), 10);
        due(2, "told(1, 1)", x.told(1, 1), 100);
        due(2, "told(6, 1)", x.told(6, 1), 0);
    }

    private static void street() {
        DripLines x = net(kinds(0, 0, 0, 0, 0, 0, 0, 0, 0, 0));
        refused(3, "street(0, 0, 1)", x, x.street(0, 0, 1), 1);
        refused(3, "street(-1, 0, 1)", x, x.street(-1, 0, 1), 1);
        refused(3, "street(0, -1, 1)", x, x.street(0, -1, 1), 1);
        refused(3, "street(10, 0, 1)", x, x.street(10, 0, 1), 1);
        refused(3, "street(0, MAX, 1)", x, x.street(0, MAX, 1), 1);
        for (int cost : new int[] {0, -1, 101, MIN, MAX}) refused(3, "cost " + cost, x, x.street(0, 1, cost), 1);
        done(3, "street(0, 9, 1)", x, x.street(0, 9, 1), 0);
        done(3, "street(9, 0, 100)", x, x.street(9, 0, 100), 1);
        for (int s = 2; s < 15; s++) due(3, "street(3, 4, 5)", x.street(3, 4, 5), s);
        done(3, "the sixteenth street", x, x.street(1, 2, 3), 15);
        refused(3, "the seventeenth street", x, x.street(1, 2, 3), 2);
        refused(3, "a seventeenth, to itself", x, x.street(1, 1, 3), 1);
        x.drop(4);
        refused(3, "the seventeenth, though one is gone", x, x.street(1, 2, 3), 2);
        due(3, "count(1)", x.count(1), 16);
        DripLines y = net(kinds(0, 0));
        refused(3, "street(0, 2, 1) of two places", y, y.street(0, 2, 1), 1);
    }

    private static void drop() {
        DripLines x = full();
        refused(4, "drop(-1)", x, x.drop(-1), 1);
        refused(4, "drop(16)", x, x.drop(16), 1);
        refused(4, "drop(MIN)", x, x.drop(MIN), 1);
        layAll(x, 0, 15, 7);
        done(4, "drop(0)", x, x.drop(0), 1);
        done(4, "drop(15)", x, x.drop(15), 1);
        refused(4, "drop(0) again", x, x.drop(0), 3);
        rows(4, "hand", handOf(x), 7);
        due(4, "streetTold(0, 3)", x.streetTold(0, 3), 0);
        due(4, "streetTold(0, 2)", x.streetTold(0, 2), 1);
        due(4, "told(9, 2)", x.told(9, 2), 14);
        due(4, "count(1)", x.count(1), 16);
        due(4, "count(2)", x.count(2), 14);
        DripLines y = net(kinds(1, 1), 0, 1, 3);
        refused(4, "drop(1) of one street", y, y.drop(1), 1);
    }

    private static void undo() {
        DripLines x = new DripLines();
        refused(5, "undo() of nothing", x, x.undo(), 3);
        places(x, 3, 1, 2);
        streets(x, 0, 1, 4, 1, 2, 6);
        x.drop(0);
        x.lay(1);
        done(5, "undo() of drop", x, x.undo(), 1);
        due(5, "streetTold(0, 3)", x.streetTold(0, 3), 1);
        due(5, "told(0, 2)", x.told(0, 2), 1);
        due(5, "count(4): the hand's tree is empty", x.count(4), 0);
        due(5, "streetTold(1, 4)", x.streetTold(1, 4), 0);
        done(5, "undo() of street", x, x.undo(), 1);
        due(5, "count(1)", x.count(1), 1);
        due(5, "told(2, 2)", x.told(2, 2), 0);
        x.map(0, 1, 3);
        x.cell(0, 0, 2);
        x.cell(0, 1, 1);
        x.cell(0, 2, 9);
        due(5, "fromMap(0, 1, 0)", x.fromMap(0, 1, 0), 1);
        done(5, "undo() of fromMap", x, x.undo(), 1);
        due(5, "streetTold(1, 0)", x.streetTold(1, 0), -1);
        due(5, "the map stays", x.forge(2, 2, 0), 9);
        x.undo();
        done(5, "undo() of place", x, x.undo(), 1);
        due(5, "count(0)", x.count(0), 2);
        due(5, "told(2, 0)", x.told(2, 0), -1);
        x.undo();
        due(5, "undo() of the well", x.undo(), 1);
        due(5, "count(3)", x.count(3), 0);
        refused(5, "undo() once more", x, x.undo(), 3);
        due(5, "place(3, 0): the well was taken back", x.place(3, 0), 0);
        x.place(0, 0);
        x.undo();
        refused(5, "place(3, 0): the well was not taken back", x, x.place(3, 0), 3);
    }

    private static void undoTenAtMost() {
        DripLines x = new DripLines();
        for (int p = 0; p < 10; p++) x.place(p == 0 ? 3 : 0, 0);
        x.street(0, 1, 1);
        x.street(1, 2, 1);
        x.place(9, 9);
        x.street(0, 0, 0);
        due(5, "count(6) after twelve", x.count(6), 10);
        for (int i = 1; i <= 10; i++) {
            done(5, "undo() " + i, x, x.undo(), 1);
            due(5, "count(6)", x.count(6), 10 - i);
        }
        refused(5, "the eleventh undo()", x, x.undo(), 3);
        due(5, "count(0)", x.count(0), 2);
        due(5, "count(1)", x.count(1), 0);
        x.place(1, 0);
        done(5, "undo() of what came since", x, x.undo(), 1);
        due(5, "count(0)", x.count(0), 2);
        refused(5, "undo() then", x, x.undo(), 3);
        due(5, "undo() leaves the hand's tree when it is refused", handKept(), 1);
    }

    private static int handKept() {
        DripLines x = full();
        for (int i = 0; i < 8; i++) x.undo();
        for (int i = 0; i < 2; i++) x.undo();
        x.lay(0);
        x.undo();
        return x.count(4);
    }

    private static void told() {
        DripLines x = net(kinds(0, 1, 2, 3, 4), 0, 4, 2, 4, 0, 3, 1, 4, 5);
        for (int p = 0; p < 5; p++) {
            due(6, "told(" + p + ", 0)", x.told(p, 0), p);
            due(6, "told(" + p + ", 1)", x.told(p, 1), p == 2 || p == 4 ? 5 : 0);
        }
        due(6, "told(0, 2)", x.told(0, 2), 2);
        due(6, "told(4, 2)", x.told(4, 2), 3);
        due(6, "told(2, 2)", x.told(2, 2), 0);
        x.drop(1);
        due(6, "told(4, 2) after drop(1)", x.told(4, 2), 2);
        int[] none = {x.told(5, 0), x.told(-1, 0), x.told(0, -1), x.told(0, 3), x.told(MAX, MAX), x.told(MIN, 1), x.told(1, MIN)};
        rows(6, "told of none such", none, -1, -1, -1, -1, -1, -1, -1);
        DripLines y = full();
        due(6, "told(9, 2)", y.told(9, 2), 16);
        due(6, "told(10, 2)", y.told(10, 2), -1);
    }

    private static void streetTold() {
        DripLines x = full();
        int[] last = {x.streetTold(15, 0), x.streetTold(15, 1), x.streetTold(15, 2), x.streetTold(15, 3), x.streetTold(15, 4)};
        rows(7, "streetTold(15, 0 .. 4)", last, 6, 9, 16, 1, 0);
        x.lay(15);
        due(7, "streetTold(15, 4)", x.streetTold(15, 4), 1);
        x.drop(15);
        due(7, "streetTold(15, 3)", x.streetTold(15, 3), 0);
        due(7, "streetTold(15, 4)", x.streetTold(15, 4), 0);
        due(7, "streetTold(15, 0)", x.streetTold(15, 0), 6);
        due(7, "streetTold(0, 0)", x.streetTold(0, 0), 0);
        int[] none = {x.streetTold(16, 0), x.streetTold(-1, 0), x.streetTold(0, -1), x.streetTold(0, 5), x.streetTold(MIN, 2), x.streetTold(3, MAX)};
        rows(7, "streetTold of none such", none, -1, -1, -1, -1, -1, -1);
    }

    private static void count() {
        DripLines x = star();
        x.drop(2);
        x.lay(0);
        x.lay(5);
        x.act(3, 3, 1);
        rows(8, "count(0 .. 6)", counts(x), 4, 6, 5, 3, 2, 4, 10);
        due(8, "count(-1)", x.count(-1), -1);
        due(8, "count(7)", x.count(7), -1);
        due(8, "count(MAX)", x.count(MAX), -1);
        due(8, "status() is not changed by questions", x.status(), 0);
    }

    private static void apart() {
        DripLines x = net(kinds(0, 4, 4, 0, 0), 0, 1, 1, 1, 3, 1, 0, 2, 2, 2, 3, 1, 0, 3, 9, 3, 0, 8);
        due(9, "apart(0, 3)", x.apart(0, 3), 7);
        due(9, "apart(3, 0)", x.apart(3, 0), 7);
        due(9, "apart(0, 1): a gate at the end is free", x.apart(0, 1), 1);
        due(9, "apart(1, 2): gates at both ends", x.apart(1, 2), 2);
        due(9, "apart(1, 1)", x.apart(1, 1), 0);
        due(9, "apart(0, 4): nothing joins them", x.apart(0, 4), NO);
        int[] none = {x.apart(5, 0), x.apart(0, 5), x.apart(-1, -1), x.apart(MAX, 0), x.apart(0, MIN), x.apart(7, 7)};
        rows(9, "apart of none such", none, NO, NO, NO, NO, NO, NO);
        x.drop(0);
        due(9, "apart(0, 3) without street 0", x.apart(0, 3), 8);
        x.drop(5);
        due(9, "apart(0, 3) without street 5", x.apart(0, 3), 8);
        DripLines line = net(kinds(1, 4, 4, 4, 4, 4, 4, 4, 4, 1));
        for (int p = 0; p < 9; p++) line.street(p, p + 1, 100);
        due(9, "apart(0, 9) along ten places", line.apart(0, 9), 940);
    }

    private static void way() {
        DripLines x = net(kinds(0, 0, 0, 0, 0, 4), 0, 3, 2, 3, 2, 2, 0, 4, 1, 4, 1, 1, 1, 2, 2, 0, 2, 5, 5, 2, 1, 0, 5, 1);
        due(10, "apart(0, 2)", x.apart(0, 2), 4);
        rows(10, "way(0, 2, ..): 0 3 2 before 0 4 1 2", wayOf(x, 0, 2), 0, 3, 2);
        rows(10, "way(2, 0, ..): 2 1 4 0 before 2 3 0", wayOf(x, 2, 0), 2, 1, 4, 0);
        rows(10, "way(3, 3, ..)", wayOf(x, 3, 3), 3);
        rows(10, "way(5, 3, ..)", wayOf(x, 5, 3), 5, 0, 3);
        due(10, "way(0, 2, -1)", x.way(0, 2, -1), -1);
        due(10, "way(0, 2, 3)", x.way(0, 2, 3), -1);
        due(10, "way(0, 2, MAX)", x.way(0, 2, MAX), -1);
        due(10, "way(0, 2, MIN)", x.way(0, 2, MIN), -1);
        due(10, "way(6, 0, 0)", x.way(6, 0, 0), -1);
        due(10, "way(0, -1, 0)", x.way(0, -1, 0), -1);
        x.place(0, 0);
        due(10, "way(0, 6, 0): there is none", x.way(0, 6, 0), -1);
        DripLines third = net(kinds(0, 0, 0, 0, 0), 0, 1, 1, 1, 3, 1, 1, 2, 1, 2, 4, 1, 3, 4, 1);
        rows(10, "way(0, 4, ..): the third place decides", wayOf(third, 0, 4), 0, 1, 2, 4);
    }

    private static void span() {
        due(11, "span() of nothing", new DripLines().span(), NO);
        due(11, "span() without taps", net(kinds(0, 2, 4), 0, 1, 1).span(), NO);
        due(11, "span() of one tap", net(kinds(0, 1)).span(), 0);
        due(11, "span() of one well", net(kinds(3)).span(), 0);
        due(11, "span() of taps that nothing joins", net(kinds(1, 1)).span(), NO);
        due(11, "span() of the star", star().span(), 8);
        due(11, "span() over a gate", net(kinds(1, 4, 3), 0, 1, 2, 1, 2, 3).span(), 10);
        due(11, "span(), one tap of three apart", net(kinds(1, 1, 1, 0), 0, 1, 2, 2, 3, 1).span(), NO);
        due(11, "span() of a row of taps", net(kinds(1, 1, 1, 1), 0, 1, 7, 1, 2, 1, 2, 3, 7, 3, 0, 3).span(), 11);
    }

    private static void least() {
        due(12, "least() of nothing", new DripLines().least(), NO);
        due(12, "least() without taps", net(kinds(0, 2), 0, 1, 1).least(), NO);
        due(12, "least() of one tap", net(kinds(0, 1)).least(), 0);
        due(12, "least() of taps that nothing joins", net(kinds(1, 1)).least(), NO);
        due(12, "least() of the star", star().least(), 6);
        due(12, "least() of one tap and wishes", net(kinds(2, 1, 2), 0, 1, 2, 1, 2, 4).least(), -4);
        due(12, "least() with a gate", net(kinds(1, 4, 3), 0, 1, 2, 1, 2, 3).least(), 10);
        due(12, "least() round a gate", net(kinds(1, 4, 3), 0, 1, 2, 1, 2, 3, 0, 2, 9).least(), 9);
        DripLines x = star();
        x.drop(4);
        due(12, "least() of the star without street 4", x.least(), 8);
        x.undo();
        due(12, "least() when it is back", x.least(), 6);
        DripLines dear = net(kinds(1));
        for (int i = 1; i < 10; i++) {
            dear.place(2, 100);
            dear.street(i - 1, i, 1);
        }
        due(12, "least() of the dearest wishes", dear.least(), -891);
    }

    private static void many() {
        due(13, "many() of nothing", new DripLines().many(), 0);
        due(13, "many() of one tap", net(kinds(1)).many(), 1);
        due(13, "many() of taps that nothing joins", net(kinds(1, 1)).many(), 0);
        due(13, "many() of the star", star().many(), 1);
        due(13, "many() of a triangle", net(kinds(1, 1, 1), 0, 1, 4, 1, 2, 4, 2, 0, 4).many(), 3);
        due(13, "many() of like streets", net(kinds(1, 1), 0, 1, 4, 1, 0, 4, 0, 1, 4, 0, 1, 5).many(), 3);
        due(13, "many() of a wish worth its street", net(kinds(1, 2), 0, 1, 5).many(), 2);
        DripLines x = net(kinds(1, 2, 2, 2, 2, 2, 2, 2, 2, 2));
        for (int s = 0; s < 16; s++) x.street(0, 1 + s % 9, 5);
        due(13, "many() of nine wishes, seven of them twice", x.many(), 2187 * 4);
        due(13, "must(0) of these", x.must(0), 1);
        rows(13, "best(0, ..) of these", bestOf(x, 0), 0, 1, 2, 3, 4, 5, 6, 7, 8);
        rows(13, "best(8747, ..) of these", bestOf(x, 8747));
        due(13, "best(8746, 0) of these", x.best(8746, 0), 15);
        due(13, "best(8746, 1) of these", x.best(8746, 1), -1);
        due(13, "best(8748, 0) of these", x.best(8748, 0), -1);
    }

    private static void best() {
        DripLines x = net(kinds(1, 1, 1), 0, 1, 4, 1, 2, 4, 2, 0, 4);
        rows(14, "best(0, ..)", bestOf(x, 0), 0, 1);
        rows(14, "best(1, ..)", bestOf(x, 1), 0, 2);
        rows(14, "best(2, ..)", bestOf(x, 2), 1, 2);
        int[] none = {x.best(3, 0), x.best(-1, 0), x.best(0, -1), x.best(0, 2), x.best(MAX, 0), x.best(0, MAX), x.best(MIN, MIN)};
        rows(14, "best of none such", none, -1, -1, -1, -1, -1, -1, -1);
        DripLines wish = net(kinds(1, 2), 0, 1, 5);
        rows(14, "best(0, ..): the one with the lowest street is ahead", bestOf(wish, 0), 0);
        rows(14, "best(1, ..): the empty one", bestOf(wish, 1));
        DripLines y = net(kinds(0, 1, 0, 1), 1, 2, 1, 2, 3, 3, 1, 0, 2, 0, 3, 2);
        rows(14, "best(0, ..): two ways of 4", bestOf(y, 0), 0, 1);
        rows(14, "best(1, ..): two ways of 4", bestOf(y, 1), 2, 3);
    }

    private static void must() {
        DripLines x = net(kinds(1, 1, 1, 0), 0, 1, 4, 1, 2, 4, 2, 1, 4, 0, 3, 1, 0, 1, 1);
        int[] got = {x.must(0), x.must(1), x.must(2), x.must(3), x.must(4)};
        rows(15, "must(0 .. 4)", got, 0, 1, 1, 0, 2);
        due(15, "must(5)", x.must(5), -1);
        due(15, "must(-1)", x.must(-1), -1);
        due(15, "must(MAX)", x.must(MAX), -1);
        x.drop(4);
        due(15, "must(4): it is gone", x.must(4), 0);
        due(15, "must(0) then", x.must(0), 2);
        x.drop(0);
        due(15, "must(0): there is no tree", x.must(0), -1);
        due(15, "must(1): there is no tree", x.must(1), -1);
        due(15, "must(0) without taps", net(kinds(0, 0), 0, 1, 1).must(0), -1);
        DripLines full = full();
        full.undo();
        due(15, "must(15): it was taken back", full.must(15), -1);
    }

    private static void most() {
        DripLines x = new DripLines();
        x.place(1, 0);
        x.place(2, 7);
        x.place(4, 3);
        x.place(2, 100);
        streets(x, 0, 1, 2, 0, 2, 1, 2, 3, 4, 1, 3, 9);
        due(16, "most(-1)", x.most(-1), NO);
        due(16, "most(MIN)", x.most(MIN), NO);
        due(16, "most(0)", x.most(0), 0);
        due(16, "most(1)", x.most(1), 0);
        due(16, "most(2)", x.most(2), 7);
        due(16, "most(7)", x.most(7), 7);
        due(16, "most(8)", x.most(8), 100);
        due(16, "most(9)", x.most(9), 100);
        due(16, "most(10)", x.most(10), 107);
        due(16, "most(MAX)", x.most(MAX), 107);
        due(16, "most(MAX) of nothing", new DripLines().most(MAX), NO);
        due(16, "most(MAX) of taps that nothing joins", net(kinds(1, 1, 2), 0, 2, 1).most(MAX), NO);
        due(16, "most(5) of the star", star().most(5), NO);
        due(16, "most(6) of the star", star().most(6), 0);
    }

    private static void lay() {
        DripLines x = full();
        done(17, "lay(0)", x, x.lay(0), 1);
        done(17, "lay(15)", x, x.lay(15), 1);
        rows(17, "hand", handOf(x), 0, 15);
        done(17, "lay(0) again", x, x.lay(0), 0);
        rows(17, "hand", handOf(x), 15);
        refused(17, "lay(16)", x, x.lay(16), 1);
        refused(17, "lay(-1)", x, x.lay(-1), 1);
        refused(17, "lay(MAX)", x, x.lay(MAX), 1);
        x.drop(3);
        refused(17, "lay(3): it is gone", x, x.lay(3), 1);
        rows(17, "hand", handOf(x), 15);
    }

    private static void clear() {
        DripLines x = star();
        layAll(x, 0, 1, 5);
        done(18, "clear()", x, x.clear(), 3);
        due(18, "count(4)", x.count(4), 0);
        done(18, "clear() again", x, x.clear(), 0);
        due(18, "count(6): it can't be undone", x.count(6), 10);
    }

    private static void why() {
        DripLines x = net(kinds(1, 1, 1, 0, 0, 0), 0, 1, 4, 1, 2, 4, 2, 0, 4, 3, 4, 1, 4, 3, 1, 2, 3, 1);
        due(19, "why() of the empty set, three taps", x.why(), 3);
        layAll(x, 0, 1, 2);
        due(19, "why() of a ring", x.why(), 1);
        x.lay(3);
        due(19, "why() of a ring and another street", x.why(), 1);
        x.lay(2);
        due(19, "why() of what does not hang together", x.why(), 2);
        x.lay(4);
        due(19, "why(): two streets that join the same two places are a ring", x.why(), 1);
        x.lay(4);
        x.lay(5);
        due(19, "why() of a tree", x.why(), 0);
        x.lay(0);
        due(19, "why(): a tap lacks", x.why(), 3);
        x.lay(5);
        due(19, "why(): a tap lacks, but first it does not hang together", x.why(), 2);
        due(19, "why() of the empty set, one tap", net(kinds(0, 1)).why(), 0);
        due(19, "why() of the empty set, no tap", net(kinds(0, 2)).why(), 3);
        DripLines none = net(kinds(0, 2), 0, 1, 1);
        none.lay(0);
        due(19, "why() of a street, no tap", none.why(), 3);
        DripLines one = net(kinds(1, 0, 0), 1, 2, 1);
        one.lay(0);
        due(19, "why() of a street, the only tap elsewhere", one.why(), 3);
    }

    private static void tag() {
        DripLines x = net(kinds(1, 2, 4, 1), 0, 1, 2, 1, 2, 3, 2, 3, 4);
        layAll(x, 0, 1);
        due(20, "tag() of no tree", x.tag(), NO);
        x.lay(2);
        due(20, "tag() with a wish and a gate", x.tag(), 9);
        due(20, "tag() of the empty tree", net(kinds(3, 2)).tag(), 0);
        due(20, "tag() of nothing", new DripLines().tag(), NO);
        DripLines y = net(kinds(1, 2), 0, 1, 2);
        y.lay(0);
        due(20, "tag() below 0", y.tag(), -3);
    }

    private static void trim() {
        DripLines x = new DripLines();
        refused(21, "trim() of nothing", x, x.trim(), 3);
        x.place(1, 0);
        x.place(2, 7);
        x.place(2, 4);
        x.place(4, 1);
        x.place(0, 0);
        x.place(2, 100);
        streets(x, 0, 1, 6, 1, 2, 4, 0, 3, 1, 3, 4, 1, 0, 5, 100);
        layAll(x, 0, 1, 2, 3, 4);
        done(21, "trim(): 2, then 4, then 3, then 5 goes", x, x.trim(), 4);
        rows(21, "hand: the wish of 7 stays at 6", handOf(x), 0);
        done(21, "trim() again", x, x.trim(), 0);
        x.lay(1);
        x.lay(3);
        refused(21, "trim() of no tree", x, x.trim(), 3);
        rows(21, "hand is kept", handOf(x), 0, 1, 3);
        DripLines y = net(kinds(1, 0, 2), 0, 1, 1, 1, 2, 4);
        layAll(y, 0, 1);
        due(21, "trim(): a wish of 5 at 4 stays, and what leads to it", y.trim(), 0);
        DripLines all = net(kinds(0, 3, 0), 0, 1, 1, 1, 2, 1);
        layAll(all, 0, 1);
        done(21, "trim() down to the only tap", all, all.trim(), 2);
        due(21, "why() then", all.why(), 0);
        DripLines gate = new DripLines();
        gate.place(4, 100);
        gate.place(1, 0);
        gate.street(0, 1, 1);
        gate.lay(0);
        due(21, "trim(): a gate goes", gate.trim(), 1);
        DripLines tap = net(kinds(1, 1, 3), 0, 1, 100, 1, 2, 100);
        layAll(tap, 0, 1);
        due(21, "trim() leaves taps", tap.trim(), 0);
    }

    private static void better() {
        DripLines x = net(kinds(1, 1, 1), 0, 1, 9, 1, 2, 8, 0, 2, 7, 0, 2, 3, 1, 0, 2);
        refused(22, "better() of no tree", x, x.better(), 3);
        layAll(x, 0, 1);
        done(22, "better(): 2 for 0", x, x.better(), 2);
        rows(22, "hand", handOf(x), 1, 2);
        done(22, "better(): 3 for 1 leaves a ring, so 3 for 2", x, x.better(), 4);
        rows(22, "hand", handOf(x), 1, 3);
        done(22, "better(): 4 for 1", x, x.better(), 6);
        rows(22, "hand", handOf(x), 3, 4);
        done(22, "better(): none", x, x.better(), 0);
        rows(22, "hand", handOf(x), 3, 4);
        DripLines wish = net(kinds(1, 0, 2), 0, 1, 1, 0, 2, 3);
        wish.lay(0);
        done(22, "better(): another leaf with a wish", wish, wish.better(), 3);
        rows(22, "hand", handOf(wish), 1);
        DripLines gone = net(kinds(1, 1), 0, 1, 5, 0, 1, 2);
        gone.lay(0);
        gone.drop(1);
        done(22, "better(): what is gone does not help", gone, gone.better(), 0);
        DripLines like = net(kinds(1, 1, 1), 0, 1, 4, 1, 2, 4, 0, 2, 4);
        layAll(like, 0, 1);
        done(22, "better(): the same price tag is not lower", like, like.better(), 0);
        rows(22, "hand", handOf(like), 0, 1);
        DripLines first = net(kinds(1, 1), 0, 1, 3, 0, 1, 5, 0, 1, 2);
        first.lay(1);
        done(22, "better(): street 0 comes before the cheaper street 2", first, first.better(), 2);
        rows(22, "hand", handOf(first), 0);
        DripLines empty = net(kinds(1, 2), 0, 1, 1);
        done(22, "better() of the empty tree", empty, empty.better(), 0);
    }

    private static void walls() {
        due(23, "walls() of nothing", new DripLines().walls(), -1);
        due(23, "walls() without taps", net(kinds(0, 2), 0, 1, 1).walls(), -1);
        due(23, "walls() of one tap", net(kinds(1, 0), 0, 1, 1).walls(), 0);
        due(23, "bound() of one tap", net(kinds(1, 0), 0, 1, 1).bound(), 0);
        due(23, "walls() of taps that nothing joins", net(kinds(1, 1)).walls(), -2);
        due(23, "walls(), one of three taps apart", net(kinds(1, 1, 1, 0), 0, 1, 2, 2, 3, 1).walls(), -2);
        due(23, "wall(0, 0) when it fails", net(kinds(1, 1, 1, 0), 0, 1, 2, 2, 3, 1).wall(0, 0), -1);
        due(23, "walls() of the star", star().walls(), 3);
        due(23, "walls(): places that are no taps grow nothing", net(kinds(1, 0, 0, 1), 0, 1, 1, 1, 2, 1, 2, 3, 1).walls(), 3);
    }

    private static void wall() {
        DripLines x = net(kinds(1, 0, 1, 4, 1), 0, 1, 6, 1, 2, 2, 2, 4, 3, 3, 4, 50, 4, 0, 50);
        // 2 and 4 grow by 1536 each and join; both grow on to 1 in {2, 4}, then over 6 to 0.
        due(24, "walls()", x.walls(), 4);
        int[] bits = {x.wall(0, 0), x.wall(1, 0), x.wall(2, 0), x.wall(3, 0)};
        rows(24, "wall(.., 0)", bits, 1 << 2, 1 << 4, 1 << 2 | 1 << 4, 1 << 1 | 1 << 2 | 1 << 4);
        int[] shares = {x.wall(0, 1), x.wall(1, 1), x.wall(2, 1), x.wall(3, 1)};
        rows(24, "wall(.., 1)", shares, 1536, 1536, 512, 6144);
        int[] none = {x.wall(4, 0), x.wall(-1, 0), x.wall(0, 2), x.wall(0, -1), x.wall(MAX, 1), x.wall(MIN, 1), x.wall(1, MAX)};
        rows(24, "wall of none such", none, -1, -1, -1, -1, -1, -1, -1);
        due(24, "wall(0, 0) without taps", net(kinds(0)).wall(0, 0), -1);
        // With the well at 2, the tap 0 is a wall and 2 is none.
        DripLines well = net(kinds(1, 0, 3), 0, 1, 1, 1, 2, 2);
        int[] two = {well.walls(), well.wall(0, 0), well.wall(0, 1), well.wall(1, 0), well.wall(1, 1)};
        rows(24, "the well is in no wall", two, 2, 1, 1024, 3, 2048);
    }

    private static void bound() {
        due(25, "bound() of nothing", new DripLines().bound(), NO);
        due(25, "bound() without taps", net(kinds(0)).bound(), NO);
        due(25, "bound() when it fails", net(kinds(1, 1)).bound(), NO);
        due(25, "bound() of the star", star().bound(), 6144);
        due(25, "bound() of one street", net(kinds(1, 1), 0, 1, 100).bound(), 102400);
        due(25, "bound(): a gate is taken for a place", net(kinds(1, 4, 3), 0, 1, 2, 1, 2, 3).bound(), 5120);
        // 1 and 2 share a street of 1 by halves; then their wall grows over the 50 less one half.
        DripLines x = net(kinds(3, 1, 1), 1, 2, 1, 0, 1, 50, 0, 2, 50);
        due(25, "bound() with halves", x.bound(), 512 + 512 + 50 * 1024 - 512);
        // Three grow by 512, then {1, 2} and {3} by 512, then {1, 2, 3} by what the 9 have left.
        DripLines three = net(kinds(3, 1, 1, 1), 1, 2, 1, 2, 3, 2, 0, 3, 9);
        three.drop(1);
        due(25, "bound() when a street is gone", three.bound(), NO);
        three.undo();
        due(25, "bound() of three taps", three.bound(), 3 * 512 + 2 * 512 + 9 * 1024 - 1024);
    }

    private static void act() {
        DripLines x = new DripLines();
        refused(26, "act(0, 0, 0) of nothing", x, x.act(0, 0, 0), 1);
        x.place(0, 0);
        x.place(1, 0);
        x.place(2, 7);
        x.place(3, 0);
        x.place(4, 9);
        streets(x, 0, 1, 1, 0, 2, 1, 0, 3, 1, 0, 4, 1, 3, 4, 1, 3, 4, 1);
        x.drop(5);
        int[] place = {x.act(0, 0, 5), x.act(0, 1, 5), x.act(0, 2, 5), x.act(0, 3, 5)};
        rows(26, "a place's acts with 5", place, 9, 18, 5, 18 ^ 5);
        int[] tap = {x.act(1, 0, 5), x.act(1, 1, 5), x.act(1, 2, 5), x.act(1, 3, 5)};
        rows(26, "a tap's acts with 5", tap, 6, 13, 4, 11 ^ 3);
        int[] wish = {x.act(2, 0, 5), x.act(2, 1, 5), x.act(2, 2, 5), x.act(2, 3, 5)};
        rows(26, "a wish's acts with 5", wish, 6, 12, 21, 12 ^ 21);
        int[] well = {x.act(3, 0, 5), x.act(3, 1, 5), x.act(3, 2, 5), x.act(3, 3, 5)};
        rows(26, "a well's acts with 5", well, 16, 33, 12, 31 ^ 9);
        int[] gate = {x.act(4, 0, 5), x.act(4, 1, 5), x.act(4, 2, 5), x.act(4, 3, 5)};
        rows(26, "a gate's acts with 5", gate, 7, 23, 1, 1 + (23 ^ 1));
        done(26, "act(0, 1, MAX) wraps", x, x.act(0, 1, MAX), (MAX + 4) * 2);
        done(26, "act(3, 2, MAX) wraps", x, x.act(3, 2, MAX), MAX * 3 - 3);
        done(26, "act(2, 2, MIN) wraps", x, x.act(2, 2, MIN), (MIN - 2) * 7);
        done(26, "act that answers -1 is done", x, x.act(1, 2, 0), -1);
        refused(26, "act(5, 0, 0)", x, x.act(5, 0, 0), 1);
        refused(26, "act(-1, 0, 0)", x, x.act(-1, 0, 0), 1);
        refused(26, "act(0, -1, 0)", x, x.act(0, -1, 0), 1);
        refused(26, "act(0, 4, 0)", x, x.act(0, 4, 0), 1);
        refused(26, "act(MIN, MAX, 0)", x, x.act(MIN, MAX, 0), 1);
    }

    private static void trace() {
        DripLines x = net(kinds(0, 1, 2, 3, 4), 0, 1, 1);
        int[][] want = {
            {10}, {11, 10}, {12}, {13, 11, 10, 12},
            {10}, {20, 11, 10}, {12}, {21, 13, 20, 11, 10, 12},
            {10}, {11, 10}, {30, 12}, {13, 11, 10, 30, 12},
            {40, 10}, {20, 11, 40, 10}, {41, 12}, {21, 13, 20, 11, 40, 10, 41, 12},
            {10}, {50, 11, 10}, {12}, {51, 12, 13, 50, 11, 10, 12}};
        for (int i = 0; i < want.length; i++) {
            x.act(i / 4, i % 4, 3);
            rows(27, "trace of act(" + i / 4 + ", " + i % 4 + ", 3)", traceOf(x), want[i]);
        }
        x.act(9, 9, 9);
        rows(27, "trace after an act that was refused", traceOf(x), 51, 12, 13, 50, 11, 10, 12);
        x.undo();
        due(27, "trace(6)", x.trace(6), 12);
        due(27, "trace(7)", x.trace(7), -1);
        due(27, "trace(-1)", x.trace(-1), -1);
        due(27, "trace(49)", x.trace(49), -1);
        due(27, "trace(50)", x.trace(50), -1);
        due(27, "trace(MAX)", x.trace(MAX), -1);
        for (int i = 0; i < 20; i++) x.act(3, 3, i);
        due(27, "count(5): the latest act alone counts", x.count(5), 8);
    }

    private static void map() {
        DripLines x = new DripLines();
        for (int map : new int[] {-1, 5, MIN, MAX}) refused(28, "map(" + map + ", 0, 1)", x, x.map(map, 0, 1), 1);
        for (int sort : new int[] {-2, 3, MIN, MAX}) refused(28, "map(0, " + sort + ", 1)", x, x.map(0, sort, 1), 1);
        for (int n : new int[] {-1, 21, MIN, MAX}) refused(28, "map(0, 1, " + n + ")", x, x.map(0, 1, n), 1);
        refused(28, "the refused map is missing", x, x.cell(0, 0, 1), 10);
        done(28, "map(0, 0, 0)", x, x.map(0, 0, 0), 1);
        refused(28, "cell(0, 0, 1) of none", x, x.cell(0, 0, 1), 12);
        done(28, "map(4, 2, 20)", x, x.map(4, 2, 20), 1);
        done(28, "cell(4, 19, 1)", x, x.cell(4, 19, 1), 1);
        done(28, "map(1, 1, 2)", x, x.map(1, 1, 2), 1);
        x.cell(1, 1, 8);
        due(28, "forge(2, 1, 1)", x.forge(2, 1, 1), 8);
        refused(28, "map(1, 1, 21)", x, x.map(1, 1, 21), 1);
        due(28, "a refused map() changes nothing", x.forge(2, 1, 1), 8);
        done(28, "map(1, 1, 3)", x, x.map(1, 1, 3), 1);
        due(28, "all its numbers are 0", x.forge(2, 1, 1), 0);
        done(28, "map(1, -1, MAX)", x, x.map(1, -1, MAX), 1);
        refused(28, "it is missing from now on", x, x.cell(1, 0, 1), 10);
        done(28, "map(1, -1, MIN) again", x, x.map(1, -1, MIN), 1);
        due(28, "count(6): it can't be undone", x.count(6), 0);
    }

    private static void cell() {
        DripLines x = new DripLines();
        x.map(0, 0, 2);
        x.map(1, 1, 20);
        refused(29, "cell(-1, 0, 1)", x, x.cell(-1, 0, 1), 1);
        refused(29, "cell(5, 0, 1)", x, x.cell(5, 0, 1), 1);
        refused(29, "cell(MIN, MAX, 1)", x, x.cell(MIN, MAX, 1), 1);
        refused(29, "cell(2, 0, 1)", x, x.cell(2, 0, 1), 10);
        refused(29, "cell(2, -1, 1)", x, x.cell(2, -1, 1), 10);
        refused(29, "cell(0, 2, 1)", x, x.cell(0, 2, 1), 12);
        refused(29, "cell(0, -1, 1)", x, x.cell(0, -1, 1), 12);
        refused(29, "cell(1, MAX, 1)", x, x.cell(1, MAX, 1), 12);
        refused(29, "cell(1, MIN, 1)", x, x.cell(1, MIN, 1), 12);
        done(29, "cell(0, 0, 5)", x, x.cell(0, 0, 5), 1);
        int[][] cuts = {{127, 127}, {128, -128}, {255, -1}, {256, 0}, {300, 44}, {-129, 127}, {MIN, 0}, {MAX, -1}};
        for (int[] cut : cuts) {
            done(29, "cell(0, 1, " + cut[0] + ")", x, x.cell(0, 1, cut[0]), 1);
            due(29, "the byte that it became", x.forge(3, 1, 0), cut[1]);
        }
        done(29, "cell(1, 19, MIN)", x, x.cell(1, 19, MIN), 1);
        due(29, "the int that it became", x.forge(2, 19, 1), MIN);
    }

    private static void fill(DripLines x, int map, int sort, int... numbers) {
        x.map(map, sort, numbers.length);
        for (int i = 0; i < numbers.length; i++) x.cell(map, i, numbers[i]);
    }

    private static void fromMap() {
        DripLines x = net(kinds(1, 1, 0));
        for (int sort = 0; sort < 3; sort++) {
            fill(x, sort, sort, 9, 2, 1, 100, 0);
            done(30, "fromMap(" + sort + ", " + sort + ", 1)", x, x.fromMap(sort, sort, 1), sort);
            due(30, "streetTold(" + sort + ", 0)", x.streetTold(sort, 0), 2);
            due(30, "streetTold(" + sort + ", 1)", x.streetTold(sort, 1), 1);
            due(30, "streetTold(" + sort + ", 2)", x.streetTold(sort, 2), 100);
            refused(30, "another sort", x, x.fromMap(sort, (sort + 1) % 3, 1), 11);
            refused(30, "another sort, outside", x, x.fromMap(sort, (sort + 2) % 3, 9), 11);
            refused(30, "place 9", x, x.fromMap(sort, sort, 0), 3);
            refused(30, "cost 0", x, x.fromMap(sort, sort, 2), 3);
            for (int i : new int[] {-1, 3, 5, MIN, MAX, MAX - 2}) refused(30, "from " + i + " on", x, x.fromMap(sort, sort, i), 12);
        }
        refused(30, "fromMap(-1, 0, 0)", x, x.fromMap(-1, 0, 0), 1);
        refused(30, "fromMap(5, 0, 0)", x, x.fromMap(5, 0, 0), 1);
        refused(30, "fromMap(0, -1, 0)", x, x.fromMap(0, -1, 0), 1);
        refused(30, "fromMap(0, 3, 0)", x, x.fromMap(0, 3, 0), 1);
        refused(30, "fromMap(3, 0, -1)", x, x.fromMap(3, 0, -1), 10);
        fill(x, 4, 1, 0, 0, 5, 0, 1, 101, 0, -1, 5);
        refused(30, "to itself", x, x.fromMap(4, 1, 0), 3);
        refused(30, "cost 101", x, x.fromMap(4, 1, 3), 3);
        refused(30, "place -1", x, x.fromMap(4, 1, 6), 3);
        fill(x, 4, 0, 0, 1, 200);
        refused(30, "a byte below 0 as cost", x, x.fromMap(4, 0, 0), 3);
        due(30, "count(1)", x.count(1), 3);
        due(30, "count(6)", x.count(6), 6);
        DripLines full = full();
        refused(30, "no room comes before nothing", full, full.fromMap(0, 0, 0), 2);
        refused(30, "no such map comes before no room", full, full.fromMap(5, 0, 0), 1);
        full.map(0, 1, 1);
        refused(30, "no room comes before another sort", full, full.fromMap(0, 0, 0), 2);
    }

    private static void forge() {
        DripLines x = net(kinds(0, 1, 2, 3, 4));
        refused(31, "forge(-1, 0, 0)", x, x.forge(-1, 0, 0), 1);
        refused(31, "forge(7, 0, 0)", x, x.forge(7, 0, 0), 1);
        refused(31, "forge(MIN, 0, 0)", x, x.forge(MIN, 0, 0), 1);
        for (int what = 0; what < 7; what++) {
            for (int far : new int[] {-101, 101, MIN, MAX}) {
                refused(31, "forge(" + what + ", " + far + ", 0)", x, x.forge(what, far, 0), 1);
                refused(31, "forge(" + what + ", 1, " + far + ")", x, x.forge(what, 1, far), 1);
            }
        }
        forgeKinds(x);
        done(31, "forge(1, 0, 0)", x, x.forge(1, 0, 0), 0);
        done(31, "forge(1, 100, -100)", x, x.forge(1, 100, -100), 100);
        refused(31, "forge(1, -1, 0)", x, x.forge(1, -1, 0), 13);
        refused(31, "forge(1, -100, 0)", x, x.forge(1, -100, 0), 13);
        forgeInts(x);
        forgeBytes(x);
        done(31, "forge(4, 0, 1)", x, x.forge(4, 0, 1), 1);
        done(31, "forge(4, 0, -7)", x, x.forge(4, 0, -7), 3);
        done(31, "forge(4, 0, 5): there is no such", x, x.forge(4, 0, 5), 0);
        for (int p : new int[] {0, 2, 4, -10}) refused(31, "forge(4, 0, " + p + ")", x, x.forge(4, 0, p), 14);
        done(31, "forge(5, 3, 0)", x, x.forge(5, 3, 0), 333);
        done(31, "forge(5, 1, 0)", x, x.forge(5, 1, 0), 1000);
        done(31, "forge(5, -3, 0)", x, x.forge(5, -3, 0), -333);
        done(31, "forge(5, 100, 100)", x, x.forge(5, 100, 100), 10);
        refused(31, "forge(5, 0, 1)", x, x.forge(5, 0, 1), 15);
        for (int n : new int[] {0, 2, -2, 100}) refused(31, "forge(6, " + n + ", 0)", x, x.forge(6, n, 0), 10);
        for (int n : new int[] {1, -1, -99, 7}) done(31, "forge(6, " + n + ", 0)", x, x.forge(6, n, 0), 1);
        due(31, "count(0)", x.count(0), 5);
        due(31, "count(6)", x.count(6), 5);
    }

    private static void forgeKinds(DripLines x) {
        for (int own = 0; own < 5; own++) {
            for (int kind = 0; kind < 5; kind++) {
                boolean under = kind == 0 || kind == own || kind == 1 && own == 3;
                int got = x.forge(0, kind, own);
                if (under) done(31, "forge(0, " + kind + ", " + own + ")", x, got, own);
                else refused(31, "forge(0, " + kind + ", " + own + ")", x, got, 11);
            }
        }
        refused(31, "forge(0, 0, 5)", x, x.forge(0, 0, 5), 10);
        refused(31, "forge(0, 2, -1)", x, x.forge(0, 2, -1), 10);
        done(31, "forge(0, -4, -7): place 3 for a tap", x, x.forge(0, -4, -7), 3);
        done(31, "forge(0, 99, 94): place 4 for a gate", x, x.forge(0, 99, 94), 4);
        refused(31, "forge(0, -1, -100): place 0 for a gate", x, x.forge(0, -1, -100), 11);
    }

    private static void forgeInts(DripLines x) {
        refused(31, "forge(2, 0, 0) of a missing map", x, x.forge(2, 0, 0), 10);
        refused(31, "forge(2, -1, 0) of a missing map", x, x.forge(2, -1, 0), 10);
        fill(x, 0, 0, 1, 2);
        fill(x, 1, 1, 6, 7, 8);
        fill(x, 2, 2, 1, 2);
        refused(31, "forge(2, 0, 0) of bytes", x, x.forge(2, 0, 0), 11);
        refused(31, "forge(2, 9, 2) of longs, outside", x, x.forge(2, 9, 2), 11);
        done(31, "forge(2, 0, 1)", x, x.forge(2, 0, 1), 6);
        done(31, "forge(2, 2, -99)", x, x.forge(2, 2, -99), 8);
        done(31, "forge(2, 2, 96)", x, x.forge(2, 2, 96), 8);
        refused(31, "forge(2, 3, 1)", x, x.forge(2, 3, 1), 12);
        refused(31, "forge(2, -1, 1)", x, x.forge(2, -1, 1), 12);
    }

    private static void forgeBytes(DripLines x) {
        refused(31, "forge(3, 1, 4) of a missing map", x, x.forge(3, 1, 4), 10);
        refused(31, "forge(3, -1, 4) of a missing map", x, x.forge(3, -1, 4), 10);
        refused(31, "forge(3, 1, 1) of ints", x, x.forge(3, 1, 1), 11);
        refused(31, "forge(3, -1, 2) of longs", x, x.forge(3, -1, 2), 11);
        fill(x, 0, 0, 9, 1, -2, 4, 8, 16);
        done(31, "forge(3, 0, 0)", x, x.forge(3, 0, 0), 0);
        done(31, "forge(3, 1, 0)", x, x.forge(3, 1, 0), 1);
        done(31, "forge(3, 2, -5)", x, x.forge(3, 2, -5), -1);
        done(31, "forge(3, 3, 100)", x, x.forge(3, 3, 100), 3);
        refused(31, "forge(3, 4, 0): the row is too short", x, x.forge(3, 4, 0), 12);
        refused(31, "forge(3, -1, 0)", x, x.forge(3, -1, 0), 12);
        fill(x, 3, 0, 9, 1, 2);
        done(31, "forge(3, 2, 3)", x, x.forge(3, 2, 3), 3);
        refused(31, "forge(3, 3, 3): the map is too short", x, x.forge(3, 3, 3), 12);
        fill(x, 3, 0, 9);
        done(31, "forge(3, 0, 3) of one number", x, x.forge(3, 0, 3), 0);
        refused(31, "forge(3, 1, 3) of one number", x, x.forge(3, 1, 3), 12);
        x.map(3, 0, 0);
        refused(31, "forge(3, 0, 3) of no numbers", x, x.forge(3, 0, 3), 12);
    }

    private static void status() {
        DripLines x = star();
        x.forge(5, 0, 0);
        x.told(0, 0);
        x.streetTold(0, 0);
        x.count(0);
        x.apart(0, 1);
        x.way(0, 1, 0);
        x.span();
        x.least();
        x.many();
        x.best(0, 0);
        x.must(0);
        x.most(9);
        x.why();
        x.tag();
        x.walls();
        x.wall(0, 0);
        x.bound();
        x.trace(0);
        x.status();
        due(32, "status() after questions", x.status(), 15);
        x.act(0, 0, 0);
        due(32, "status() after an act", x.status(), 0);
        x.forge(1, -1, 0);
        x.map(0, 0, 1);
        due(32, "status() after map()", x.status(), 0);
        x.forge(1, -1, 0);
        x.cell(0, 0, 1);
        due(32, "status() after cell()", x.status(), 0);
        x.forge(1, -1, 0);
        x.clear();
        due(32, "status() after clear()", x.status(), 0);
    }

    public static void main(String[] args) {
        Watch.over("promises");
        newObject();
        place();
        street();
        drop();
        undo();
        undoTenAtMost();
        told();
        streetTold();
        count();
        apart();
        way();
        span();
        least();
        many();
        best();
        must();
        most();
        lay();
        clear();
        why();
        tag();
        trim();
        better();
        walls();
        wall();
        bound();
        act();
        trace();
        map();
        cell();
        fromMap();
        forge();
        status();
        System.out.println(wrong == 0 ? "promises: all as due" : "promises: " + wrong + " answers are not as due");
        if (wrong != 0) System.exit(1);
    }
}
