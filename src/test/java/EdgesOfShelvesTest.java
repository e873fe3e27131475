/** Promises 10 to 16: a test for each sentence of the document that names a boundary. */
public final class EdgesOfShelvesTest {
    private static final long LEAST = Integer.MIN_VALUE;
    private static final long GREATEST = Integer.MAX_VALUE;

    private EdgesOfShelvesTest() {
    }

    public static void main(String[] args) {
        shelvesHaveNumbers();
        rowsHaveSizes();
        rowsHaveSorts();
        rowsAreNew();
        rowsRefused();
        setsRefused();
        lowestBits();
        copies();
        copiesOntoThemselves();
        copiesBelowAndBeyond();
        copiesOtherAndNothing();
        copiesFirstOfTwo();
        elements();
        shows();
        showsRefused();
        holds();
        desks();
        Due.end();
    }

    private static void shelvesHaveNumbers() {
        Run r = new Run("SHELVES 0 to 7 hold NOTHING (at first)");
        r.did("office", 5, 0);
        for (int s = 0; s < 8; s++) {
            r.none("holds", s).due(1, "row", s, 3, 1).due(103, "holds", s);
        }
        for (int s = 0; s < 8; s++) {
            r.due(1, "set", s, 0, 10 + s);
        }
        for (int s = 0; s < 8; s++) {
            r.due(10 + s, "element", s, 0).due(1, "show", s, 0).due(5, "desksIn", s);
        }
    }

    // ---- promise 10

    private static void rowsHaveSizes() {
        Run r = new Run("0 to 60 elements, 0 at first");
        r.due(1, "row", 0, 0, 0).refused(-5, "set", 0, 0, 1);
        r.due(1, "row", 0, 0, 1).due(1, "set", 0, 0, 1).refused(-5, "set", 0, 1, 1);
        r.due(1, "row", 0, 0, 60);
        for (int i = 0; i < 60; i++) {
            r.due(0, "element", 0, i).due(1, "set", 0, i, i - 30);
        }
        r.due(-30, "element", 0, 0).due(29, "element", 0, 59);
        Run full = new Run("no element 60");
        full.did("row", 7, 3, 60).did("set", 7, 59, 9).refused(-5, "set", 7, 60, 1).asked(9, "element", 7, 59);
        Run beyond = new Run("row: -7 n above 60; -4");
        beyond.row(0, 1, 7).refused(-7, "row", 0, 0, 61).refused(-7, "row", 0, 3, GREATEST);
        beyond.refused(-4, "row", 0, 0, -1).refused(-4, "row", 0, 0, LEAST).due(101, "holds", 0);
    }

    private static void rowsHaveSorts() {
        Run r = new Run("a SORT (0 bytes, 1 shorts, 2 ints, 3 longs)");
        for (int sort = 0; sort < 4; sort++) {
            r.due(1, "row", 0, sort, 1).due(100 + sort, "holds", 0);
        }
        r.refused(-6, "row", 0, -1, 1).refused(-6, "row", 0, 4, 1);
        r.refused(-6, "row", 0, LEAST, 1).refused(-6, "row", 0, GREATEST, 1);
    }

    private static void rowsAreNew() {
        Run r = new Run("SHELF s holds a new ROW");
        r.did("office", 1, 0).row(0, 3, 1, 2, 3).due(1, "row", 0, 3, 3);
        for (int i = 0; i < 3; i++) {
            r.due(0, "element", 0, i);
        }
        r.row(0, 3, 1, 2, 3).due(1, "row", 0, 3, 1).due(1, "row", 0, 3, 3).due(0, "element", 0, 2);
        r.did("show", 1, 0).due(1, "row", 1, 2, 2).due(102, "holds", 1).refused(-2, "desksIn", 1);
        r.row(2, 3, 5).did("show", 2, -1).due(1, "row", 2, 3, 1).due(0, "element", 2, 0);
    }

    private static void rowsRefused() {
        Run r = new Run("row: -1");
        r.refused(-1, "row", 8, 0, 1).refused(-1, "row", -1, 0, 1).refused(-1, "row", GREATEST, 0, 1);
        r.refused(-1, "row", LEAST, 0, 1);
        Run first = new Run("row: -1, -4, -6, -7 in this order");
        first.refused(-1, "row", 8, 0, -1).refused(-1, "row", -1, 4, 1).refused(-1, "row", 8, 0, 61);
        first.refused(-4, "row", 0, 4, -1).refused(-4, "row", 7, -1, -1);
        first.refused(-6, "row", 0, 4, 61).refused(-6, "row", 7, -1, 61);
    }

    // ---- promise 11

    private static void setsRefused() {
        Run r = new Run("set: -1; -2; -3; -5");
        r.did("office", 1, 0).did("show", 1, 0).row(0, 2, 4, 5);
        r.refused(-1, "set", 8, 0, 1).refused(-1, "set", -1, 0, 1).refused(-1, "set", LEAST, 0, 1);
        r.refused(-2, "set", 1, 0, 1).refused(-3, "set", 2, 0, 1);
        r.refused(-5, "set", 0, 2, 1).refused(-5, "set", 0, -1, 1);
        r.refused(-5, "set", 0, GREATEST, 1).refused(-5, "set", 0, LEAST, 1);
        Run first = new Run("set: -1, -2, -3 ahead of -5");
        first.did("office", 1, 0).did("show", 1, 0);
        first.refused(-1, "set", 8, -1, 1).refused(-2, "set", 1, -1, 1).refused(-2, "set", 1, 60, 1);
        first.refused(-3, "set", 2, -1, 1).refused(-3, "set", 2, 60, 1);
    }

    private static void lowestBits() {
        long[][] bytes = {{127, 127}, {128, -128}, {255, -1}, {256, 0}, {-128, -128}, {-129, 127}};
        long[][] shorts = {{32767, 32767}, {32768, -32768}, {65535, -1}, {65536, 0}, {-32769, 32767}};
        long[][] ints = {{GREATEST, GREATEST}, {GREATEST + 1, LEAST}, {(1L << 32) - 1, -1}, {1L << 32, 0},
            {LEAST, LEAST}, {LEAST - 1, GREATEST}};
        long[][] longs = {{Long.MAX_VALUE, Long.MAX_VALUE}, {Long.MIN_VALUE, Long.MIN_VALUE}, {1L << 32, 1L << 32}};
        long[][][] all = {bytes, shorts, ints, longs};
        for (int sort = 0; sort < 4; sort++) {
            Run r = new Run("what is put in keeps its lowest bits: SORT " + sort);
            r.did("row", 0, sort, 2);
            for (long[] pair : all[sort]) {
                r.due(1, "set", 0, 1, pair[0]).due(pair[1], "element", 0, 1).due(0, "element", 0, 0);
            }
        }
    }

    // ---- promise 12

    private static Run holdsRow(Run r, int s, long... want) {
        for (int i = 0; i < want.length; i++) {
            r.due(want[i], "element", s, i);
        }
        return r.due(0, "element", s, want.length);
    }

    private static void copies() {
        for (int sort = 0; sort < 4; sort++) {
            Run r = new Run("copy: elements i, i + 1, .. come to j, j + 1, ..: SORT " + sort);
            r.row(0, sort, 1, 2, 3, 4, 5).row(1, sort, 9, 8, 7);
            r.due(1, "copy", 0, 1, 2, 0, 3);
            holdsRow(r, 1, 3, 4, 5);
            r.due(1, "copy", 0, 1, 0, 2, 1);
            holdsRow(r, 1, 3, 4, 1);
            r.due(1, "copy", 0, 1, 4, 1, 1);
            holdsRow(r, 1, 3, 5, 1);
            holdsRow(r, 0, 1, 2, 3, 4, 5);
        }
        Run none = new Run("copy: n of them: 0");
        none.row(0, 2, 1, 2).row(1, 2, 3).row(2, 2);
        none.asked(1, "copy", 0, 1, 0, 0, 0).asked(1, "copy", 0, 1, 2, 1, 0).asked(1, "copy", 2, 2, 0, 0, 0);
        Run whole = new Run("copy: 60 of them");
        whole.did("row", 0, 3, 60).did("row", 7, 3, 60).did("set", 0, 0, 5).did("set", 0, 59, 6);
        whole.due(1, "copy", 0, 7, 0, 0, 60).due(5, "element", 7, 0).due(6, "element", 7, 59);
    }

    private static void copiesOntoThemselves() {
        Run r = new Run("copy: as they were ahead");
        r.row(0, 2, 1, 2, 3, 4, 5).due(1, "copy", 0, 0, 0, 1, 4);
        holdsRow(r, 0, 1, 1, 2, 3, 4);
        r.row(0, 2, 1, 2, 3, 4, 5).due(1, "copy", 0, 0, 1, 0, 4);
        holdsRow(r, 0, 2, 3, 4, 5, 5);
        r.row(0, 2, 1, 2, 3, 4, 5).due(1, "copy", 0, 0, 0, 2, 3);
        holdsRow(r, 0, 1, 2, 1, 2, 3);
        r.asked(1, "copy", 0, 0, 0, 0, 5);
    }

    private static void copiesBelowAndBeyond() {
        Run r = new Run("copy: -4 n");
        r.row(0, 2, 1, 2, 3).row(1, 2, 9, 8);
        r.refused(-4, "copy", 0, 1, 0, 0, -1).refused(-4, "copy", 0, 1, 0, 0, LEAST);
        Run beyond = new Run("copy: -5 i or j below 0, or an end that isn't there");
        beyond.row(0, 2, 1, 2, 3).row(1, 2, 9, 8);
        beyond.refused(-5, "copy", 0, 1, -1, 0, 1).refused(-5, "copy", 0, 1, 0, -1, 1);
        beyond.refused(-5, "copy", 0, 1, -1, 0, 0).refused(-5, "copy", 0, 1, 0, -1, 0);
        beyond.refused(-5, "copy", 0, 1, LEAST, 0, 1).refused(-5, "copy", 0, 1, 0, LEAST, 1);
        beyond.refused(-5, "copy", 1, 0, 0, 0, 3).refused(-5, "copy", 1, 0, 1, 0, 2);
        beyond.refused(-5, "copy", 0, 1, 0, 0, 3).refused(-5, "copy", 0, 1, 0, 1, 2);
        beyond.refused(-5, "copy", 0, 1, 4, 0, 0).refused(-5, "copy", 0, 1, 0, 3, 0);
        beyond.refused(-5, "copy", 0, 1, GREATEST, 0, 1).refused(-5, "copy", 0, 1, 0, GREATEST, 1);
        beyond.refused(-5, "copy", 0, 1, 1, 0, GREATEST).refused(-5, "copy", 0, 1, 0, 1, GREATEST);
        beyond.refused(-5, "copy", 0, 1, GREATEST, GREATEST, GREATEST);
        Run empty = new Run("copy: an empty ROW has no end but 0");
        empty.row(0, 2).row(1, 2, 1).refused(-5, "copy", 0, 1, 0, 0, 1).refused(-5, "copy", 1, 0, 0, 0, 1);
        empty.refused(-5, "copy", 0, 1, 1, 0, 0);
    }

    /** Shelf 0 a row of ints, 1 an office, 2 nothing, 3 a row of longs. */
    private static Run fourShelves(String sentence) {
        return new Run(sentence).did("office", 1, 0).row(0, 2, 5).did("show", 1, 0).row(3, 3, 6);
    }

    private static void copiesOtherAndNothing() {
        Run nobody = fourShelves("copy: -1");
        nobody.refused(-1, "copy", 8, 0, 0, 0, 1).refused(-1, "copy", 0, 8, 0, 0, 1);
        nobody.refused(-1, "copy", -1, 0, 0, 0, 1).refused(-1, "copy", 0, -1, 0, 0, 1);
        Run other = fourShelves("copy: -2 an OFFICE, also of two SORTS");
        other.refused(-2, "copy", 0, 1, 0, 0, 1).refused(-2, "copy", 1, 0, 0, 0, 1);
        other.refused(-2, "copy", 1, 1, 0, 0, 1).refused(-2, "copy", 0, 3, 0, 0, 1);
        other.refused(-2, "copy", 3, 0, 0, 0, 1);
        Run nothing = fourShelves("copy: -3 either (two SORTS only when both hold something)");
        nothing.refused(-3, "copy", 0, 2, 0, 0, 1).refused(-3, "copy", 2, 0, 0, 0, 1);
        nothing.refused(-3, "copy", 2, 2, 0, 0, 1).refused(-3, "copy", 3, 2, 0, 0, 1);
        for (int a = 0; a < 4; a++) {
            for (int b = 0; b < 4; b++) {
                Run sorts = new Run("copy: SORTS " + a + " and " + b);
                sorts.row(0, a, 1).row(1, b, 2).due(a == b ? 1 : -2, "copy", 0, 1, 0, 0, 1);
            }
        }
    }

    private static void copiesFirstOfTwo() {
        Run r = fourShelves("copy: -1, -2, -3, -4, -5 in this order");
        r.refused(-1, "copy", 1, 8, 0, 0, 1).refused(-1, "copy", 8, 2, 0, 0, 1);
        r.refused(-1, "copy", 0, 8, 0, 0, -1).refused(-1, "copy", 8, 0, -1, 0, 1);
        r.refused(-2, "copy", 1, 2, 0, 0, 1).refused(-2, "copy", 2, 1, 0, 0, 1);
        r.refused(-2, "copy", 0, 1, 0, 0, -1).refused(-2, "copy", 0, 3, -1, 0, 1);
        r.refused(-2, "copy", 0, 3, 0, 0, -1).refused(-2, "copy", 1, 0, 0, 5, 1);
        r.refused(-3, "copy", 0, 2, 0, 0, -1).refused(-3, "copy", 2, 0, 0, 0, -1);
        r.refused(-3, "copy", 0, 2, -1, 0, 1).refused(-3, "copy", 2, 0, 0, 2, 1);
        r.refused(-4, "copy", 0, 0, -1, 0, -1).refused(-4, "copy", 0, 0, 0, 2, -1);
    }

    // ---- promise 13

    private static void elements() {
        Run r = fourShelves("element: 0 if there is none (nothing is refused)");
        r.asked(5, "element", 0, 0).asked(0, "element", 0, 1).asked(0, "element", 0, -1);
        r.asked(0, "element", 0, GREATEST).asked(0, "element", 0, LEAST);
        r.asked(0, "element", 1, 0).asked(0, "element", 2, 0);
        r.asked(0, "element", 8, 0).asked(0, "element", -1, 0).asked(0, "element", GREATEST, 0);
        r.asked(0, "element", LEAST, LEAST);
        Run was = new Run("element: none behind a shorter ROW");
        was.row(0, 3, 1, 2, 3).row(0, 3, 7).asked(0, "element", 0, 1).asked(0, "element", 0, 2);
        was.did("show", 0, -1).asked(0, "element", 0, 0);
        Run full = new Run("element: none behind a full ROW").did("row", 7, 3, 60).did("set", 7, 59, 4);
        full.asked(4, "element", 7, 59).asked(0, "element", 7, 60).asked(0, "element", 7, 61);
    }

    // ---- promise 14

    private static void shows() {
        Run r = fourShelves("show: SHELF s holds an OFFICE: 1; NOTHING (office NONE): 0");
        for (int k = 1; k < 10; k++) {
            r.did("office", 1 + k, 0);
        }
        r.due(1, "show", 0, 9).due(9, "holds", 0).due(1, "show", 0, 0).due(0, "holds", 0);
        r.due(0, "show", 0, -1).due(-1, "holds", 0).due(0, "show", 0, -1).due(-1, "holds", 0);
        r.due(1, "show", 7, 9).due(1, "show", 6, 9).due(10, "desksIn", 7).due(10, "desksIn", 6);
        r.due(0, "show", 3, -1).due(-1, "holds", 3);
    }

    private static void showsRefused() {
        Run r = fourShelves("show: -1 either");
        r.refused(-1, "show", 8, 0).refused(-1, "show", -1, 0).refused(-1, "show", 8, -1);
        r.refused(-1, "show", -1, -1).refused(-1, "show", LEAST, 0);
        r.refused(-1, "show", 0, 1).refused(-1, "show", 0, -2).refused(-1, "show", 0, GREATEST);
        r.refused(-1, "show", 0, LEAST).refused(-1, "show", 8, 1).refused(-1, "show", 0, 100);
    }

    // ---- promise 15

    private static void holds() {
        Run r = fourShelves("holds: NONE NOTHING, or no such SHELF");
        r.none("holds", 2).none("holds", 8).none("holds", -1).none("holds", GREATEST).none("holds", LEAST);
        r.asked(102, "holds", 0).asked(0, "holds", 1).asked(103, "holds", 3);
    }

    // ---- promise 16

    private static void desks() {
        Run r = fourShelves("desksIn: -1; -2; -3");
        r.asked(1, "desksIn", 1).refused(-2, "desksIn", 0).refused(-2, "desksIn", 3).refused(-3, "desksIn", 2);
        r.refused(-1, "desksIn", 8).refused(-1, "desksIn", -1).refused(-1, "desksIn", GREATEST);
        r.refused(-1, "desksIn", LEAST);
        Run empty = new Run("desksIn: an empty ROW is a ROW");
        empty.row(0, 0).refused(-2, "desksIn", 0);
    }
}
