/** Promises 33 to 39: embassies and plots, files and days, and the counts. */
public final class PlotsAndFilesTest {
    private PlotsAndFilesTest() {
    }

    public static void main(String[] args) {
        embassies();
        palaces();
        plots();
        files();
        days();
        counts();
        Due.end();
    }

    private static void embassies() {
        CapitalMoved x = new CapitalMoved();
        Due.due("embassy(-1)", x.embassy(-1), Due.WRONG);
        Due.due("embassy(10)", x.embassy(10), Due.WRONG);
        for (int k = 0; k < 10; k++) {
            Due.due("embassy " + k, x.embassy(k == 0 ? 0 : 9), k);
        }
        Due.due("the 11th", x.embassy(0), Due.ROOM);
        Due.due("WRONG ahead of ROOM", x.embassy(10), Due.WRONG);
        Due.due("status(6)", x.status(6), 10);
        Due.refusals("embassy", x, 0, 0, 0, 0, 0, 3, 1);
        CapitalMoved y = new CapitalMoved();
        y.begin();
        Due.due("behind BEGIN", y.embassy(0), 0);
    }

    private static void palaces() {
        CapitalMoved x = new CapitalMoved();
        Due.due("35 at first", x.palace(0), 35);
        Due.due("palace(35)", x.palace(35), 0);
        Due.due("palace(36)", x.palace(36), Due.NOBODY);
        Due.due("palace(-1)", x.palace(-1), Due.NOBODY);
        Due.due("palace(35)", x.palace(35), 35);
        Due.refusals("palace", x, 2, 0, 0, 0, 0, 0, 0);
    }

    private static void plots() {
        CapitalMoved x = new CapitalMoved();
        Due.due("plot(0)", x.plot(0), -1);
        x.embassy(3);
        Due.due("nearest, lesser number", x.plot(0), 29);
        x.embassy(3);
        Due.due("like rank: lesser number first", x.plot(0), 29);
        Due.due("like rank", x.plot(1), 34);
        x.embassy(9);
        Due.due("greatest rank", x.plot(2), 29);
        Due.due("one back", x.plot(0), 34);
        Due.due("two away", x.plot(1), 23);
        x.palace(14);
        Due.due("round plot 14", x.plot(2), 8);
        Due.due("round plot 14", x.plot(0), 13);
        Due.due("round plot 14", x.plot(1), 15);
        x.embassy(0);
        x.embassy(0);
        x.embassy(0);
        Due.due("round plot 14", x.plot(3), 20);
        Due.due("two away", x.plot(4), 2);
        Due.due("two away", x.plot(5), 7);
        x.palace(5);
        int[] want = {11, 3, 4, 10, 17, 2};
        for (int k = 0; k < want.length; k++) {
            Due.due("round plot 5: plot(" + k + ")", x.plot(k), want[k]);
        }
        Due.due("plot(6)", x.plot(6), -1);
        Due.due("plot(-1)", x.plot(-1), -1);
        Due.refusals("plot", x, 0, 0, 0, 0, 0, 0, 0);
    }

    private static void files() {
        CapitalMoved x = new CapitalMoved();
        x.office(1, 0);
        Due.due("file(1)", x.file(1), Due.NOBODY);
        Due.due("file(-1)", x.file(-1), Due.NOBODY);
        for (int k = 0; k < 12; k++) {
            Due.due("file " + k, x.file(0), k);
        }
        Due.due("the 13th", x.file(0), Due.ROOM);
        Due.due("NOBODY ahead of ROOM", x.file(1), Due.NOBODY);
        Due.due("road(12)", x.road(12), Due.NOBODY);
        Due.due("road(-1)", x.road(-1), Due.NOBODY);
        Due.due("road(3)", x.road(3), 1);
        Due.due("status(8)", x.status(8), 1);
        Due.due("on the ROAD already", x.road(3), Due.WRONG);
        x.begin();
        x.next();
        Due.due("status(8)", x.status(8), 0);
        Due.due("in the new town", x.road(3), Due.WRONG);
        Due.due("road(4)", x.road(4), 1);
        x.next();
        x.next();
        x.next();
        x.next();
        Due.due("all were lived", x.road(5), Due.WRONG);
        Due.due("status(7)", x.status(7), 12);
        Due.refusals("files", x, 5, 0, 0, 0, 0, 3, 1);
    }

    private static void days() {
        CapitalMoved x = new CapitalMoved();
        x.office(1, 0);
        x.office(1, 0);
        x.building(1, 0);
        x.file(0);
        x.file(1);
        Due.due("both in the old town", x.days(0, 1), 0);
        x.road(1);
        Due.due("on the ROAD", x.days(1, 0), 4);
        Due.due("on the ROAD", x.days(1, 1), 4);
        x.give(0, 0);
        Due.due("not MOVED yet", x.days(0, 0), 0);
        x.begin();
        x.next();
        Due.due("old town, MOVED", x.days(0, 0), 2);
        Due.due("old town, not MOVED", x.days(0, 1), 0);
        Due.due("new town, MOVED", x.days(1, 0), 0);
        Due.due("new town, not MOVED", x.days(1, 1), 2);
        Due.due("where the OFFICE is", x.file(0), 2);
        Due.due("new town", x.days(2, 0), 0);
        Due.due("new town", x.days(2, 1), 2);
        Due.due("in the new town", x.road(2), Due.WRONG);
        x.file(1);
        Due.due("old town", x.days(3, 1), 0);
        Due.due("days(4, 0)", x.days(4, 0), -1);
        Due.due("days(-1, 0)", x.days(-1, 0), -1);
        Due.due("days(0, 2)", x.days(0, 2), -1);
        Due.due("days(0, -1)", x.days(0, -1), -1);
        Due.refusals("days", x, 0, 0, 0, 0, 0, 1, 0);
    }

    private static void counts() {
        CapitalMoved x = new CapitalMoved();
        Due.due("status(-1)", x.status(-1), -1);
        Due.due("status(22)", x.status(22), -1);
        Due.due("status(MIN)", x.status(Integer.MIN_VALUE), -1);
        Due.due("status(MAX)", x.status(Integer.MAX_VALUE), -1);
        Due.refusals("status", x, 0, 0, 0, 0, 0, 0, 0);
        x.tie(0, 1, 0);
        x.office(1, 0);
        x.show(0, 0);
        x.set(0, 0, 0);
        x.set(1, 0, 0);
        x.row(1, 0, -1);
        x.row(1, 0, 0);
        x.set(1, 0, 0);
        x.office(0, 0);
        x.row(2, 0, 61);
        Due.refusals("one of each", x, 1, 1, 1, 1, 1, 1, 1);
        x.wave(7);
        x.cut(7);
        x.people(7, 7);
        x.town(7);
        x.pay(7, 7);
        x.plot(7);
        x.days(7, 7);
        x.status(70);
        x.holds(70);
        x.element(70, 7);
        x.fault();
        x.cost();
        x.legal();
        Due.refusals("questions refuse nothing", x, 1, 1, 1, 1, 1, 1, 1);
    }
}
