/** Promises 20 to 24: plans, their cuts, their cost, and whether they are legal. */
public final class PlansTest {
    private PlansTest() {
    }

    public static void main(String[] args) {
        cutsAndCost();
        legalByDesks();
        legalByMost();
        legalByHouseholds();
        byRule();
        byRuleBehindBegin();
        bySwaps();
        swapsTakeTheFirstOfLike();
        best();
        toMend();
        refusals();
        Due.end();
    }

    private static CapitalMoved withOffices(int... ranks) {
        CapitalMoved x = new CapitalMoved();
        for (int rank : ranks) {
            x.office(10, rank);
        }
        return x;
    }

    private static void cutsAndCost() {
        CapitalMoved x = withOffices(0, 0, 0, 0);
        x.tie(0, 1, 5);
        x.tie(1, 2, 7);
        x.tie(2, 3, 20);
        x.tie(0, 3, 11);
        Due.due("none over: cost()", x.cost(), 0);
        x.give(0, 1);
        x.give(1, 3);
        x.stay(2, true);
        Due.due("cut(0)", x.cut(0), 0);
        Due.due("cut(1)", x.cut(1), 16);
        Due.due("cut(2)", x.cut(2), 16);
        Due.due("cut(3)", x.cut(3), 18);
        Due.due("cut(4)", x.cut(4), 18);
        Due.due("cost()", x.cost(), 68);
        Due.due("cut(5)", x.cut(5), -1);
        Due.due("cut(-1)", x.cut(-1), -1);
        Due.due("wave(4)", x.wave(4), -1);
        Due.due("wave(-1)", x.wave(-1), -1);
        Due.due("wave(2)", x.wave(2), -1);
        x.tie(0, 1, 0);
        Due.due("cost() with less", x.cost(), 58);
        Due.refusals("cuts", x, 0, 0, 0, 0, 0, 0, 0);
    }

    private static void legalByDesks() {
        CapitalMoved x = withOffices(0, 0);
        Due.due("no waves", x.legal(), 5);
        x.give(0, 1);
        Due.due("no desks", x.legal(), 1);
        x.building(10, 2);
        Due.due("too late", x.legal(), 1);
        x.late(0, 1);
        Due.due("enough", x.legal(), 5);
        x.give(1, 4);
        Due.due("too few in the last", x.legal(), 4);
        x.building(9, 4);
        Due.due("one too few", x.legal(), 4);
        x.building(1, 0);
        Due.due("just enough", x.legal(), 5);
        x.late(2, 4);
        Due.due("ready in its wave", x.legal(), 5);
        x.stay(1, true);
        x.late(1, 0);
        Due.due("what STAYS needs none", x.legal(), 5);
    }

    private static void legalByMost() {
        CapitalMoved x = withOffices(0, 0, 0);
        x.building(100, 0);
        x.limit(0, 20);
        x.give(0, 2);
        x.give(1, 2);
        Due.due("just MOST", x.legal(), 5);
        x.give(2, 2);
        Due.due("above MOST", x.legal(), 2);
        x.give(2, 3);
        Due.due("in two waves", x.legal(), 5);
        x.limit(0, 19);
        Due.due("less may go", x.legal(), 2);
    }

    private static void legalByHouseholds() {
        CapitalMoved x = withOffices(0, 0);
        x.building(100, 0);
        x.folk(0, 0, 3);
        x.folk(0, 1, 4);
        x.folk(1, 1, 2);
        x.kind(1, 2, 1);
        x.give(0, 1);
        x.give(1, 3);
        Due.due("no flats", x.legal(), 1);
        x.ready(0, 0, 5);
        x.ready(1, 0, 2);
        Due.due("flats, no seats", x.legal(), 1);
        x.ready(1, 1, 3);
        Due.due("one seat too few", x.legal(), 1);
        x.ready(1, 1, 4);
        Due.due("flats of later offices", x.legal(), 3);
        x.ready(3, 0, 2);
        Due.due("seats of later offices", x.legal(), 3);
        x.ready(2, 1, 2);
        Due.due("all", x.legal(), 5);
        x.kind(0, 2, 100);
        Due.due("children in both kinds", x.legal(), 1);
        x.kind(0, 2, 0);
        x.kind(1, 2, 0);
        x.ready(1, 1, 0);
        Due.due("no children", x.legal(), 5);
        x.ready(1, 0, 1);
        Due.due("one flat too few", x.legal(), 1);
    }

    private static void byRule() {
        CapitalMoved x = withOffices(3, 9, 3, 5, 0);
        x.building(20, 1);
        x.building(10, 2);
        x.building(20, 4);
        x.tie(0, 1, 2);
        x.give(0, 0);
        Due.due("plan(0)", x.plan(0), 2);
        Due.waves("greatest rank first", x, 2, 1, 4, 1, 4);
        x.stay(1, true);
        Due.due("plan(0)", x.plan(0), 8);
        Due.waves("what STAYS is left out", x, 1, -1, 2, 1, 4);
        x.stay(1, false);
        x.limit(0, 10);
        Due.due("no room for all", x.plan(0), Due.WRONG);
        Due.waves("as it was", x, 1, -1, 2, 1, 4);
        x.stay(4, true);
        Due.due("plan(0)", x.plan(0), 4);
        Due.waves("MOST", x, 3, 1, 4, 2, -1);
    }

    private static void byRuleBehindBegin() {
        CapitalMoved x = withOffices(1, 9, 5);
        x.building(100, 0);
        x.limit(0, 10);
        x.give(0, 0);
        x.begin();
        x.next();
        Due.due("plan(0)", x.plan(0), 0);
        Due.waves("MOVED keep theirs", x, 0, 1, 2);
        x.next();
        x.give(2, -1);
        x.next();
        Due.due("plan(0)", x.plan(0), 0);
        Due.waves("none is past", x, 0, 1, 3);
        x.give(2, -1);
        x.next();
        x.next();
        for (int way = 0; way < 4; way++) {
            Due.due("all waves are past", x.plan(way), Due.WRONG);
        }
        x.stay(2, true);
        for (int way = 0; way < 4; way++) {
            Due.due("none is left", x.plan(way), 0);
        }
        Due.waves("MOVED keep theirs", x, 0, 1, -1);
    }

    private static void bySwaps() {
        CapitalMoved x = withOffices(9, 8, 7, 6);
        x.building(20, 0);
        x.building(20, 1);
        x.tie(0, 2, 5);
        x.tie(1, 3, 4);
        Due.due("by rule", x.plan(0), 9);
        Due.waves("by rule", x, 0, 0, 1, 1);
        Due.due("by swaps", x.plan(1), 0);
        // 0 to 1: 4; 0 to 2: 14; 0 and 3 exchanged: 0; but 1 and 2 exchanged: 0 as well.
        Due.waves("by swaps", x, 1, 0, 1, 0);
    }

    private static void swapsTakeTheFirstOfLike() {
        CapitalMoved x = withOffices(0, 0);
        Due.plenty(x);
        x.limit(0, 10);
        x.office(10, 0);
        x.stay(2, true);
        x.tie(0, 1, 3);
        x.tie(1, 2, 4);
        Due.due("by rule", x.plan(0), 19);
        // 1 to 4: 4 + 12 = 16; no other change of one office is better than 0 to 2, 3.
        Due.due("by swaps", x.plan(1), 7);
        Due.waves("by swaps", x, 3, 4, -1);
        CapitalMoved y = withOffices(0, 0, 0);
        y.building(30, 0);
        y.tie(0, 1, 2);
        y.tie(1, 2, 2);
        y.limit(0, 20);
        Due.due("by rule", y.plan(0), 2);
        Due.waves("by rule", y, 0, 0, 1);
        Due.due("by swaps none is better", y.plan(1), 2);
        Due.waves("by swaps", y, 0, 0, 1);
    }

    private static void best() {
        CapitalMoved x = withOffices(0, 0, 0, 0);
        x.building(20, 0);
        x.building(20, 2);
        x.tie(0, 1, 1);
        x.tie(2, 3, 20);
        x.tie(0, 2, 2);
        x.tie(1, 3, 3);
        x.limit(0, 20);
        Due.due("plan(2)", x.plan(2), 5);
        Due.waves("lesser waves first", x, 1, 1, 2, 2);
        x.tie(1, 3, 0);
        x.tie(0, 2, 0);
        Due.due("plan(2)", x.plan(2), 0);
        Due.waves("lesser waves first", x, 0, 0, 2, 2);
        x.limit(0, 9);
        Due.due("there is none", x.plan(2), Due.WRONG);
        Due.due("there is none", x.plan(3), Due.WRONG);
        Due.waves("as it was", x, 0, 0, 2, 2);
    }

    private static void toMend() {
        CapitalMoved x = withOffices(0, 0, 0, 0);
        x.building(20, 0);
        x.building(20, 2);
        x.tie(0, 1, 9);
        x.tie(2, 3, 2);
        x.tie(1, 2, 1);
        x.give(0, 0);
        x.give(1, 0);
        x.give(2, 1);
        x.give(3, 2);
        Due.due("not legal", x.legal(), 1);
        Due.due("plan(3)", x.plan(3), 2);
        Due.waves("one is changed", x, 0, 0, 2, 2);
        Due.due("plan(3)", x.plan(3), 2);
        Due.waves("none is changed", x, 0, 0, 2, 2);
        x.give(3, -1);
        x.give(2, 4);
        Due.due("plan(3)", x.plan(3), 4);
        Due.waves("one without a wave gets one", x, 0, 0, 4, 4);
        x.late(0, 3);
        x.limit(0, 20);
        Due.due("a late building", x.legal(), 0);
        Due.due("plan(3)", x.plan(3), 1);
        Due.waves("two are changed", x, 3, 3, 4, 4);
        x.begin();
        x.next();
        x.next();
        x.next();
        x.give(2, -1);
        Due.due("plan(3)", x.plan(3), 1);
        Due.waves("none is past", x, 3, 3, 4, 4);
        x.give(0, 4);
        x.give(1, 4);
        x.give(2, 3);
        x.give(3, 3);
        x.next();
        x.give(0, -1);
        Due.due("plan(3)", x.plan(3), 1);
        Due.waves("MOVED keep theirs", x, 4, 4, 3, 3);
        Due.due("plan(2)", x.plan(2), 1);
        Due.waves("MOVED keep theirs", x, 4, 4, 3, 3);
    }

    private static void refusals() {
        CapitalMoved x = withOffices(0, 0, 0, 0, 0, 0, 0);
        Due.due("plan(-1)", x.plan(-1), Due.WRONG);
        Due.due("plan(4)", x.plan(4), Due.WRONG);
        Due.due("plan(2) of 7", x.plan(2), Due.ROOM);
        Due.due("plan(3) of 7", x.plan(3), Due.ROOM);
        Due.due("plan(0) of 7", x.plan(0), Due.WRONG);
        Due.due("plan(1) of 7", x.plan(1), Due.WRONG);
        x.stay(3, true);
        Due.due("plan(2) of 6", x.plan(2), Due.WRONG);
        Due.plenty(x);
        Due.due("plan(2) of 6", x.plan(2), 0);
        Due.waves("best", x, 0, 0, 0, -1, 0, 0, 0);
        for (int k = 1; k < 7; k++) {
            x.give(k, k == 3 ? 9 : -1);
        }
        x.stay(3, false);
        x.begin();
        x.next();
        Due.due("6 are neither", x.plan(2), 0);
        Due.waves("best", x, 0, 1, 1, 1, 1, 1, 1);
        Due.refusals("plan", x, 1, 0, 0, 0, 0, 5, 2);
    }
}
