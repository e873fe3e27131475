/** Promises 1 to 9 and 17 to 19: offices, what is told ahead of BEGIN, and waves that are given. */
public final class OfficesTest {
    private OfficesTest() {
    }

    public static void main(String[] args) {
        newObject();
        offices();
        ties();
        buildings();
        lateBuildings();
        readyInWaves();
        limits();
        folk();
        kinds();
        stays();
        gives();
        givesByRow();
        Due.end();
    }

    private static void newObject() {
        CapitalMoved x = new CapitalMoved();
        for (int what = 0; what <= 21; what++) {
            Due.due("new status(" + what + ")", x.status(what), 0);
        }
        Due.due("new cost()", x.cost(), 0);
        Due.due("new legal()", x.legal(), 5);
        Due.due("new fault()", x.fault(), -1);
        Due.due("new town(0)", x.town(0), 20);
        Due.due("new town(1)", x.town(1), 0);
        Due.due("new town(2)", x.town(2), 0);
        Due.due("new town(3)", x.town(3), 400);
        Due.due("new town(4)", x.town(4), 0);
        Due.due("new wave(0)", x.wave(0), -1);
        Due.due("new plan(2)", x.plan(2), 0);
        Due.due("new begin()", x.begin(), 0);
        CapitalMoved other = new CapitalMoved();
        other.office(1, 1);
        Due.due("objects apart", x.status(0), 0);
    }

    private static void offices() {
        CapitalMoved x = new CapitalMoved();
        Due.due("office(0, 0)", x.office(0, 0), Due.WRONG);
        Due.due("office(41, 0)", x.office(41, 0), Due.WRONG);
        Due.due("office(1, -1)", x.office(1, -1), Due.WRONG);
        Due.due("office(1, 10)", x.office(1, 10), Due.WRONG);
        Due.due("office(MIN, 0)", x.office(Integer.MIN_VALUE, 0), Due.WRONG);
        for (int k = 0; k < 10; k++) {
            Due.due("office " + k, x.office(k == 0 ? 1 : 40, k == 0 ? 9 : 0), k);
            Due.due("its wave", x.wave(k), -1);
        }
        Due.due("the 11th office", x.office(1, 0), Due.ROOM);
        Due.due("WRONG ahead of ROOM", x.office(0, 0), Due.WRONG);
        Due.due("status(0)", x.status(0), 10);
        x.begin();
        Due.due("behind BEGIN ahead of ROOM", x.office(1, 0), Due.WRONG);
        Due.refusals("offices", x, 0, 0, 0, 0, 0, 7, 1);
    }

    private static void ties() {
        CapitalMoved x = new CapitalMoved();
        x.office(1, 0);
        x.office(1, 0);
        Due.due("tie(0, 1, 20)", x.tie(0, 1, 20), 0);
        Due.due("tie(1, 0, 3)", x.tie(1, 0, 3), 20);
        Due.due("tie(0, 1, 0)", x.tie(0, 1, 0), 3);
        Due.due("tie(0, 2, 99)", x.tie(0, 2, 99), Due.NOBODY);
        Due.due("tie(-1, 0, 1)", x.tie(-1, 0, 1), Due.NOBODY);
        Due.due("tie(2, 2, 1)", x.tie(2, 2, 1), Due.NOBODY);
        Due.due("tie(1, 1, 1)", x.tie(1, 1, 1), Due.WRONG);
        Due.due("tie(0, 1, -1)", x.tie(0, 1, -1), Due.WRONG);
        Due.due("tie(0, 1, 21)", x.tie(0, 1, 21), Due.WRONG);
        x.begin();
        Due.due("behind BEGIN", x.tie(0, 1, 5), 0);
        Due.due("as it was", x.tie(0, 1, 5), 5);
        Due.refusals("ties", x, 3, 0, 0, 0, 0, 3, 0);
    }

    private static void buildings() {
        CapitalMoved x = new CapitalMoved();
        Due.due("building(0, 5)", x.building(0, 5), Due.NOBODY);
        Due.due("building(1, -1)", x.building(1, -1), Due.NOBODY);
        Due.due("building(0, 0)", x.building(0, 0), Due.WRONG);
        Due.due("building(121, 0)", x.building(121, 0), Due.WRONG);
        for (int k = 0; k < 6; k++) {
            Due.due("building " + k, x.building(k == 0 ? 1 : 120, k % 5), k);
        }
        Due.due("the 7th", x.building(1, 0), Due.ROOM);
        Due.due("WRONG ahead of ROOM", x.building(0, 0), Due.WRONG);
        x.begin();
        Due.due("behind BEGIN", x.building(1, 0), Due.WRONG);
        Due.due("NOBODY ahead of WRONG", x.building(1, 5), Due.NOBODY);
        Due.due("status(1)", x.status(1), 6);
        Due.refusals("buildings", x, 3, 0, 0, 0, 0, 4, 1);
    }

    private static void lateBuildings() {
        CapitalMoved x = new CapitalMoved();
        x.building(5, 1);
        x.building(5, 3);
        Due.due("late(0, 4)", x.late(0, 4), 1);
        Due.due("late(0, 0)", x.late(0, 0), 4);
        Due.due("late(0, 1)", x.late(0, 1), 0);
        Due.due("late(2, 0)", x.late(2, 0), Due.NOBODY);
        Due.due("late(-1, 0)", x.late(-1, 0), Due.NOBODY);
        Due.due("late(0, 5)", x.late(0, 5), Due.NOBODY);
        Due.due("late(0, -1)", x.late(0, -1), Due.NOBODY);
        x.begin();
        Due.due("none lived yet", x.late(0, 0), 1);
        Due.due("none lived yet", x.late(0, 1), 0);
        x.next();
        Due.due("would be in a lived one", x.late(0, 0), Due.WRONG);
        Due.due("in NOW", x.late(0, 1), 1);
        Due.due("earlier, not lived", x.late(1, 1), 3);
        Due.due("later again", x.late(1, 3), 1);
        x.next();
        Due.due("was in a lived one", x.late(0, 4), Due.WRONG);
        Due.due("not yet", x.late(1, 2), 3);
        Due.due("NOBODY ahead of WRONG", x.late(0, 5), Due.NOBODY);
        Due.refusals("late", x, 5, 0, 0, 0, 0, 2, 0);
    }

    private static void readyInWaves() {
        CapitalMoved x = new CapitalMoved();
        Due.due("ready(4, 1, 400)", x.ready(4, 1, 400), 0);
        Due.due("ready(4, 1, 0)", x.ready(4, 1, 0), 400);
        Due.due("ready(4, 0, 7)", x.ready(4, 0, 7), 0);
        Due.due("ready(0, 0, 8)", x.ready(0, 0, 8), 0);
        Due.due("ready(4, 0, 9)", x.ready(4, 0, 9), 7);
        Due.due("ready(5, 9, 999)", x.ready(5, 9, 999), Due.NOBODY);
        Due.due("ready(-1, 0, 0)", x.ready(-1, 0, 0), Due.NOBODY);
        Due.due("ready(0, 2, 0)", x.ready(0, 2, 0), Due.WRONG);
        Due.due("ready(0, -1, 0)", x.ready(0, -1, 0), Due.WRONG);
        Due.due("ready(0, 0, -1)", x.ready(0, 0, -1), Due.WRONG);
        Due.due("ready(0, 0, 401)", x.ready(0, 0, 401), Due.WRONG);
        x.begin();
        Due.due("behind BEGIN", x.ready(0, 0, 1), Due.WRONG);
        Due.due("NOBODY first", x.ready(5, 0, 1), Due.NOBODY);
        Due.refusals("ready", x, 3, 0, 0, 0, 0, 5, 0);
    }

    private static void limits() {
        CapitalMoved x = new CapitalMoved();
        Due.due("limit(0, 1)", x.limit(0, 1), 400);
        Due.due("limit(0, 400)", x.limit(0, 400), 1);
        Due.due("limit(0, 0)", x.limit(0, 0), Due.WRONG);
        Due.due("limit(0, 401)", x.limit(0, 401), Due.WRONG);
        Due.due("limit(1, 0)", x.limit(1, 0), 400);
        Due.due("limit(1, 400)", x.limit(1, 400), 0);
        Due.due("limit(1, -1)", x.limit(1, -1), Due.WRONG);
        Due.due("limit(1, 401)", x.limit(1, 401), Due.WRONG);
        Due.due("limit(2, 1000)", x.limit(2, 1000), 20);
        Due.due("limit(2, 0)", x.limit(2, 0), 1000);
        Due.due("limit(2, -1)", x.limit(2, -1), Due.WRONG);
        Due.due("limit(2, 1001)", x.limit(2, 1001), Due.WRONG);
        Due.due("limit(3, 1)", x.limit(3, 1), Due.WRONG);
        Due.due("limit(-1, 1)", x.limit(-1, 1), Due.WRONG);
        Due.due("town(0)", x.town(0), 0);
        x.begin();
        Due.due("behind BEGIN", x.limit(2, 1), Due.WRONG);
        Due.due("town(0)", x.town(0), 0);
        Due.refusals("limit", x, 0, 0, 0, 0, 0, 9, 0);
    }

    private static void folk() {
        CapitalMoved x = new CapitalMoved();
        x.office(1, 0);
        x.office(1, 0);
        Due.due("folk(0, 0, 40)", x.folk(0, 0, 40), 0);
        Due.due("folk(0, 2, 5)", x.folk(0, 2, 5), 0);
        Due.due("folk(1, 0, 6)", x.folk(1, 0, 6), 0);
        Due.due("folk(0, 0, 1)", x.folk(0, 0, 1), 40);
        Due.due("folk(0, 2, 0)", x.folk(0, 2, 0), 5);
        Due.due("folk(2, 3, 99)", x.folk(2, 3, 99), Due.NOBODY);
        Due.due("folk(0, 3, 99)", x.folk(0, 3, 99), Due.NOBODY);
        Due.due("folk(0, -1, 0)", x.folk(0, -1, 0), Due.NOBODY);
        Due.due("folk(0, 0, 41)", x.folk(0, 0, 41), Due.WRONG);
        Due.due("folk(0, 0, -1)", x.folk(0, 0, -1), Due.WRONG);
        Due.due("status(18)", x.status(18), 7);
        Due.due("people(0, 0)", x.people(0, 0), 1);
        x.begin();
        Due.due("behind BEGIN", x.folk(0, 0, 1), Due.WRONG);
        Due.due("NOBODY first", x.folk(9, 0, 1), Due.NOBODY);
        Due.refusals("folk", x, 4, 0, 0, 0, 0, 3, 0);
    }

    private static void kinds() {
        CapitalMoved x = new CapitalMoved();
        for (int what = 0; what < 5; what++) {
            Due.due("kind(2, " + what + ", 100)", x.kind(2, what, 100), 0);
            Due.due("kind(0, " + what + ", 1)", x.kind(0, what, 1 + what), 0);
            Due.due("kind(2, " + what + ", 0)", x.kind(2, what, 0), 100);
            Due.due("kind(0, " + what + ", 0)", x.kind(0, what, 0), 1 + what);
        }
        Due.due("kind(3, 9, 999)", x.kind(3, 9, 999), Due.NOBODY);
        Due.due("kind(-1, 0, 0)", x.kind(-1, 0, 0), Due.NOBODY);
        Due.due("kind(0, 5, 0)", x.kind(0, 5, 0), Due.WRONG);
        Due.due("kind(0, -1, 0)", x.kind(0, -1, 0), Due.WRONG);
        Due.due("kind(0, 0, 101)", x.kind(0, 0, 101), Due.WRONG);
        Due.due("kind(0, 0, -1)", x.kind(0, 0, -1), Due.WRONG);
        x.begin();
        Due.due("behind BEGIN", x.kind(0, 0, 0), Due.WRONG);
        Due.refusals("kind", x, 2, 0, 0, 0, 0, 5, 0);
    }

    private static void stays() {
        CapitalMoved x = new CapitalMoved();
        x.office(1, 0);
        x.office(1, 0);
        Due.plenty(x);
        Due.due("stay(0, false)", x.stay(0, false), 0);
        x.give(0, 2);
        Due.due("stay(0, false)", x.stay(0, false), 0);
        Due.due("keeps its wave", x.wave(0), 2);
        Due.due("stay(0, true)", x.stay(0, true), 1);
        Due.due("has no wave", x.wave(0), -1);
        Due.due("stay(0, true)", x.stay(0, true), 0);
        Due.due("status(3)", x.status(3), 1);
        Due.due("stay(0, false)", x.stay(0, false), 1);
        Due.due("has none still", x.wave(0), -1);
        Due.due("status(3)", x.status(3), 0);
        Due.due("stay(2, true)", x.stay(2, true), Due.NOBODY);
        Due.due("stay(-1, true)", x.stay(-1, true), Due.NOBODY);
        x.give(0, 0);
        x.give(1, 1);
        x.begin();
        Due.due("behind BEGIN", x.stay(1, true), 1);
        x.next();
        Due.due("MOVED", x.stay(0, true), Due.WRONG);
        Due.due("MOVED", x.stay(0, false), Due.WRONG);
        Due.due("not MOVED", x.stay(1, false), 1);
        Due.refusals("stay", x, 2, 0, 0, 0, 0, 2, 0);
    }

    private static void gives() {
        CapitalMoved x = new CapitalMoved();
        x.office(1, 0);
        x.office(1, 0);
        x.office(1, 0);
        x.stay(2, true);
        Due.due("give(0, 0)", x.give(0, 0), -1);
        Due.due("give(0, 4)", x.give(0, 4), 0);
        Due.due("give(0, NONE)", x.give(0, -1), 4);
        Due.due("give(0, NONE)", x.give(0, -1), -1);
        Due.due("not LEGAL may be", x.give(0, 1), -1);
        Due.refusals("give answers NONE", x, 0, 0, 0, 0, 0, 0, 0);
        Due.due("legal()", x.legal(), 1);
        Due.due("give(0, 5)", x.give(0, 5), Due.NOBODY);
        Due.due("give(0, -2)", x.give(0, -2), Due.NOBODY);
        Due.due("give(3, 0)", x.give(3, 0), Due.NOBODY);
        Due.due("STAYS, no such wave", x.give(2, 5), Due.NOBODY);
        Due.due("STAYS", x.give(2, 0), Due.WRONG);
        Due.due("STAYS, none", x.give(2, -1), Due.WRONG);
        x.give(0, -1);
        x.begin();
        x.next();
        x.next();
        Due.due("past", x.give(0, 1), Due.WRONG);
        Due.due("NOW", x.give(0, 2), -1);
        Due.due("none", x.give(0, -1), 2);
        Due.refusals("give", x, 4, 0, 0, 0, 0, 3, 0);
        CapitalMoved y = new CapitalMoved();
        y.office(1, 0);
        y.building(1, 0);
        y.give(0, 0);
        y.begin();
        y.next();
        Due.due("MOVED", y.give(0, 0), Due.WRONG);
        Due.due("MOVED", y.give(0, 3), Due.WRONG);
        Due.due("MOVED", y.give(0, -1), Due.WRONG);
        Due.due("MOVED", y.wave(0), 0);
    }

    private static void givesByRow() {
        CapitalMoved x = new CapitalMoved();
        x.office(1, 0);
        x.office(1, 0);
        x.office(1, 0);
        x.building(1, 0);
        Due.due("gives(8)", x.gives(8), Due.NOBODY);
        Due.due("gives(0) of NOTHING", x.gives(0), Due.NOTHING);
        x.show(0, 0);
        Due.due("gives(0) of an OFFICE", x.gives(0), Due.OTHER);
        Due.longs(x, 1, 0, 3);
        Due.due("too few", x.gives(1), Due.BEYOND);
        Due.longs(x, 1, 0, 3, -1, 99);
        Due.due("gives", x.gives(1), 2);
        Due.waves("gives", x, 0, 3, -1);
        Due.due("gives again", x.gives(1), 0);
        Due.longs(x, 1, 1, 1, 5);
        Due.due("no such wave", x.gives(1), Due.WRONG);
        Due.waves("nothing is changed", x, 0, 3, -1);
        Due.longs(x, 1, 0x100000000L, 0x1ffffffffL, 4L);
        Due.due("lowest 32 bits", x.gives(1), 2);
        Due.waves("lowest 32 bits", x, 0, -1, 4);
        x.row(2, 0, 3);
        x.set(2, 0, 0);
        x.set(2, 1, 255);
        x.set(2, 2, 1);
        Due.due("bytes", x.gives(2), 1);
        Due.waves("bytes", x, 0, -1, 1);
        x.stay(1, true);
        x.begin();
        x.next();
        Due.longs(x, 3, 0, -1, 2);
        Due.due("MOVED and STAYS have theirs", x.gives(3), 1);
        Due.longs(x, 3, 0, 2, 3);
        Due.due("STAYS", x.gives(3), Due.WRONG);
        Due.longs(x, 3, 1, -1, 3);
        Due.due("MOVED", x.gives(3), Due.WRONG);
        Due.longs(x, 3, 0, -1, 0);
        Due.due("past", x.gives(3), Due.WRONG);
        Due.waves("nothing is changed", x, 0, -1, 2);
        Due.refusals("gives", x, 1, 1, 1, 0, 1, 4, 0);
    }
}
