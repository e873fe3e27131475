/** Promises 10 to 16: shelves and what they hold. */
public final class ShelvesTest {
    private ShelvesTest() {
    }

    public static void main(String[] args) {
        rows();
        sets();
        copies();
        elements();
        shows();
        desks();
        Due.end();
    }

    private static void rows() {
        CapitalMoved x = new CapitalMoved();
        for (int s = 0; s < 8; s++) {
            Due.due("nothing at first", x.holds(s), -1);
        }
        Due.due("holds(8)", x.holds(8), -1);
        Due.due("holds(-1)", x.holds(-1), -1);
        Due.due("row(8, 9, -1)", x.row(8, 9, -1), Due.NOBODY);
        Due.due("row(-1, 0, 0)", x.row(-1, 0, 0), Due.NOBODY);
        Due.due("row(0, 9, -1)", x.row(0, 9, -1), Due.BELOW);
        Due.due("row(0, 4, 61)", x.row(0, 4, 61), Due.WRONG);
        Due.due("row(0, -1, 0)", x.row(0, -1, 0), Due.WRONG);
        Due.due("row(0, 3, 61)", x.row(0, 3, 61), Due.ROOM);
        Due.due("still nothing", x.holds(0), -1);
        for (int sort = 0; sort < 4; sort++) {
            Due.due("row(7, sort, 60)", x.row(7, sort, 60), 1);
            Due.due("holds(7)", x.holds(7), 100 + sort);
            Due.due("set(7, 59, 3)", x.set(7, 59, 3), 1);
            Due.due("element(7, 59)", x.element(7, 59), 3);
        }
        Due.due("row(7, 1, 60)", x.row(7, 1, 60), 1);
        Due.due("a new row is empty", x.element(7, 59), 0);
        Due.due("row(7, 1, 0)", x.row(7, 1, 0), 1);
        Due.due("no elements", x.set(7, 0, 1), Due.BEYOND);
        Due.refusals("row", x, 2, 0, 0, 1, 1, 2, 1);
    }

    private static void sets() {
        CapitalMoved x = new CapitalMoved();
        x.office(1, 1);
        Due.due("set(8, 0, 1)", x.set(8, 0, 1), Due.NOBODY);
        Due.due("set(0, -1, 1)", x.set(0, -1, 1), Due.NOTHING);
        x.show(0, 0);
        Due.due("set of an OFFICE", x.set(0, -1, 1), Due.OTHER);
        long v = 0x123456789abcdef0L;
        long[] want = {(byte) v, (short) v, (int) v, v};
        for (int sort = 0; sort < 4; sort++) {
            x.row(1, sort, 2);
            Due.due("set", x.set(1, 1, v), 1);
            Due.due("lowest bits", x.element(1, 1), want[sort]);
            Due.due("the other", x.element(1, 0), 0);
            x.set(1, 0, Long.MIN_VALUE);
            Due.due("least", x.element(1, 0), sort == 3 ? Long.MIN_VALUE : 0);
            x.set(1, 0, -1);
            Due.due("-1", x.element(1, 0), -1);
        }
        Due.due("set(1, 2, 1)", x.set(1, 2, 1), Due.BEYOND);
        Due.due("set(1, -1, 1)", x.set(1, -1, 1), Due.BEYOND);
        Due.due("set(1, MAX, 1)", x.set(1, Integer.MAX_VALUE, 1), Due.BEYOND);
        Due.refusals("set", x, 1, 1, 1, 0, 3, 0, 0);
    }

    private static void copies() {
        CapitalMoved x = new CapitalMoved();
        x.office(1, 1);
        Due.longs(x, 0, 1, 2, 3, 4, 5);
        Due.longs(x, 1, 9, 9, 9);
        x.row(2, 1, 9);
        x.show(3, 0);
        Due.due("copy(0, 1, 1, 0, 3)", x.copy(0, 1, 1, 0, 3), 1);
        checkRow(x, 1, 2, 3, 4);
        Due.due("onto itself, up", x.copy(0, 0, 0, 1, 4), 1);
        checkRow(x, 0, 1, 1, 2, 3, 4);
        Due.due("onto itself, down", x.copy(0, 0, 1, 0, 4), 1);
        checkRow(x, 0, 1, 2, 3, 4, 4);
        Due.due("none of them", x.copy(0, 1, 5, 3, 0), 1);
        Due.due("copy(8, ..)", x.copy(8, 3, 0, 0, 1), Due.NOBODY);
        Due.due("copy(3, -1 ..)", x.copy(3, -1, 0, 0, 1), Due.NOBODY);
        Due.due("OFFICE and NOTHING", x.copy(3, 4, 0, 0, -1), Due.OTHER);
        Due.due("NOTHING and OFFICE", x.copy(4, 3, 0, 0, -1), Due.OTHER);
        Due.due("ROW and OFFICE", x.copy(0, 3, 0, 0, -1), Due.OTHER);
        Due.due("two SORTS", x.copy(0, 2, 0, 0, -1), Due.OTHER);
        Due.due("ROW and NOTHING", x.copy(0, 4, 0, 0, -1), Due.NOTHING);
        Due.due("NOTHING and ROW", x.copy(4, 0, 0, 0, -1), Due.NOTHING);
        Due.due("NOTHING twice", x.copy(4, 4, 0, 0, -1), Due.NOTHING);
        Due.due("n below 0", x.copy(0, 1, -1, -1, -1), Due.BELOW);
        Due.due("i below 0", x.copy(0, 1, -1, 0, 1), Due.BEYOND);
        Due.due("j below 0", x.copy(0, 1, 0, -1, 1), Due.BEYOND);
        Due.due("no such end in p", x.copy(1, 0, 1, 0, 3), Due.BEYOND);
        Due.due("no such end in q", x.copy(0, 1, 0, 1, 3), Due.BEYOND);
        Due.due("i far off, none", x.copy(0, 1, 6, 0, 0), Due.BEYOND);
        Due.due("j far off, none", x.copy(0, 1, 0, 4, 0), Due.BEYOND);
        Due.due("greatest", x.copy(0, 1, Integer.MAX_VALUE, 0, Integer.MAX_VALUE), Due.BEYOND);
        Due.due("greatest", x.copy(0, 1, 1, 0, Integer.MAX_VALUE), Due.BEYOND);
        checkRow(x, 1, 2, 3, 4);
        checkRow(x, 0, 1, 2, 3, 4, 4);
        Due.refusals("copy", x, 2, 4, 3, 1, 8, 0, 0);
    }

    private static void checkRow(CapitalMoved x, int s, long... want) {
        for (int i = 0; i < want.length; i++) {
            Due.due("element(" + s + ", " + i + ")", x.element(s, i), want[i]);
        }
    }

    private static void elements() {
        CapitalMoved x = new CapitalMoved();
        x.office(1, 1);
        Due.longs(x, 0, 7);
        x.show(1, 0);
        Due.due("element(0, 0)", x.element(0, 0), 7);
        Due.due("element(0, 1)", x.element(0, 1), 0);
        Due.due("element(0, -1)", x.element(0, -1), 0);
        Due.due("element(1, 0)", x.element(1, 0), 0);
        Due.due("element(2, 0)", x.element(2, 0), 0);
        Due.due("element(8, 0)", x.element(8, 0), 0);
        Due.due("element(-1, 0)", x.element(-1, 0), 0);
        x.show(0, 0);
        Due.due("an OFFICE now", x.element(0, 0), 0);
        x.row(3, 3, 60);
        Due.due("behind a full ROW", x.element(3, 60), 0);
        Due.due("far behind it", x.element(3, Integer.MAX_VALUE), 0);
        Due.refusals("element", x, 0, 0, 0, 0, 0, 0, 0);
    }

    private static void shows() {
        CapitalMoved x = new CapitalMoved();
        x.office(1, 1);
        x.office(1, 1);
        Due.due("show(0, 1)", x.show(0, 1), 1);
        Due.due("holds(0)", x.holds(0), 1);
        Due.due("show(7, 0)", x.show(7, 0), 1);
        Due.due("holds(7)", x.holds(7), 0);
        Due.due("show(0, NONE)", x.show(0, -1), 0);
        Due.due("holds(0)", x.holds(0), -1);
        x.row(0, 2, 1);
        Due.due("show(0, 2)", x.show(0, 2), Due.NOBODY);
        Due.due("show(0, -2)", x.show(0, -2), Due.NOBODY);
        Due.due("show(8, 0)", x.show(8, 0), Due.NOBODY);
        Due.due("show(-1, NONE)", x.show(-1, -1), Due.NOBODY);
        Due.due("holds(0)", x.holds(0), 102);
        Due.due("show over a ROW", x.show(0, -1), 0);
        Due.due("holds(0)", x.holds(0), -1);
        Due.refusals("show", x, 4, 0, 0, 0, 0, 0, 0);
    }

    private static void desks() {
        CapitalMoved x = new CapitalMoved();
        x.office(33, 1);
        x.office(40, 1);
        x.show(0, 1);
        x.show(1, 0);
        x.row(2, 0, 1);
        Due.due("desksIn(0)", x.desksIn(0), 40);
        Due.due("desksIn(1)", x.desksIn(1), 33);
        Due.due("desksIn(2)", x.desksIn(2), Due.OTHER);
        Due.due("desksIn(3)", x.desksIn(3), Due.NOTHING);
        Due.due("desksIn(8)", x.desksIn(8), Due.NOBODY);
        Due.due("desksIn(-1)", x.desksIn(-1), Due.NOBODY);
        Due.refusals("desksIn", x, 2, 1, 1, 0, 0, 0, 0);
    }
}
