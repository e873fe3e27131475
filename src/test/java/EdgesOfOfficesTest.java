/** Promises 1 to 9: a test for each sentence of the document that names a boundary. */
public final class EdgesOfOfficesTest {
    private static final long LEAST = Integer.MIN_VALUE;
    private static final long GREATEST = Integer.MAX_VALUE;

    private EdgesOfOfficesTest() {
    }

    public static void main(String[] args) {
        nothingThereYet();
        whatIsAtFirst();
        offices();
        officesRefused();
        ties();
        tiesRefused();
        tiesAtAnyTime();
        buildings();
        buildingsRefused();
        lateAheadOfBegin();
        lateBehindBegin();
        lateRefused();
        ready();
        readyRefused();
        limits();
        limitsRefused();
        folk();
        folkRefused();
        kinds();
        kindsRefused();
        Due.end();
    }

    // ---- promise 1

    private static void nothingThereYet() {
        Run r = new Run("no OFFICES");
        r.asked(0, "status", 0).asked(0, "cost").asked(5, "legal");
        r.refused(-1, "tie", 0, 1, 0).refused(-1, "folk", 0, 0, 0).refused(-1, "stay", 0, 1);
        r.refused(-1, "give", 0, 0).refused(-1, "give", 0, -1).refused(-1, "file", 0);
        r.refused(-1, "show", 0, 0).refused(-1, "late", 0, 0).refused(-1, "road", 0);
        r.refused(-1, "vote", 0, 1, 0, 1, 0);
        r.none("wave", 0).none("pay", 0, 0).none("plot", 0).none("days", 0, 0).none("people", 0, 0);
        for (int way = 0; way < 4; way++) {
            r.due(0, "plan", way);
        }
        r.did("row", 0, 2, 0).due(0, "gives", 0);
        Run begun = new Run("no OFFICES; ahead of BEGIN");
        begun.asked(0, "status", 10).refused(-6, "next").due(0, "begin");
        for (int wave = 0; wave < 5; wave++) {
            begun.due(wave, "status", 9).due(0, "next");
        }
        begun.due(5, "status", 9).refused(-6, "next");
    }

    private static void whatIsAtFirst() {
        Run r = new Run("at first");
        for (int wave = 0; wave < 5; wave++) {
            r.due(0, "ready", wave, 0, 1).due(0, "ready", wave, 1, 1);
        }
        r.due(400, "limit", 0, 1).due(400, "limit", 1, 1).due(20, "limit", 2, 1);
        for (int kind = 0; kind < 3; kind++) {
            for (int what = 0; what < 5; what++) {
                r.due(0, "kind", kind, what, 1);
            }
        }
        for (int s = 0; s < 8; s++) {
            r.none("holds", s);
        }
        r.none("fault").due(35, "palace", 0);
        for (int k = 0; k < 10; k++) {
            r.did("office", 1, 0);
            for (int other = 0; other < k; other++) {
                r.due(0, "tie", k, other, 1);
            }
            for (int kind = 0; kind < 3; kind++) {
                r.due(0, "folk", k, kind, 1);
            }
        }
    }

    // ---- promise 2

    private static void offices() {
        Run desks = new Run("DESKS 1 to 40");
        desks.due(0, "office", 1, 0).due(1, "office", 40, 0);
        desks.refused(-6, "office", 0, 0).refused(-6, "office", 41, 0).refused(-6, "office", -1, 0);
        desks.refused(-6, "office", LEAST, 0).refused(-6, "office", GREATEST, 0);
        desks.did("show", 0, 0).did("show", 1, 1).due(1, "desksIn", 0).due(40, "desksIn", 1);
        Run rank = new Run("a RANK 0 to 9");
        rank.due(0, "office", 1, 0).due(1, "office", 1, 9);
        rank.refused(-6, "office", 1, -1).refused(-6, "office", 1, 10);
        rank.refused(-6, "office", 1, LEAST).refused(-6, "office", 1, GREATEST);
        Run without = new Run("A new OFFICE (without a WAVE)");
        without.did("building", 2, 0).did("office", 1, 0).due(0, "plan", 0).did("office", 1, 0);
        without.waves(0, -1).due(1, "begin");
    }

    private static void officesRefused() {
        Run r = new Run("OFFICES have numbers, from 0 on, 10 at most");
        for (int k = 0; k < 10; k++) {
            r.due(k, "office", 1, 0);
        }
        r.refused(-7, "office", 1, 0).refused(-7, "office", 40, 9).due(10, "status", 0);
        Run full = new Run("office: -6 ahead of -7");
        for (int k = 0; k < 10; k++) {
            full.did("office", 40, 9);
        }
        full.refused(-6, "office", 0, 0).refused(-6, "office", 41, 0);
        full.refused(-6, "office", 1, -1).refused(-6, "office", 1, 10);
        full.did("begin").refused(-6, "office", 1, 0);
        Run begun = new Run("office: -6 behind BEGIN");
        begun.did("office", 1, 0).did("begin").refused(-6, "office", 1, 0);
        begun.did("next").refused(-6, "office", 1, 0).due(1, "status", 0);
    }

    // ---- promise 3

    private static Run withOffices(String sentence, int n) {
        Run r = new Run(sentence);
        for (int k = 0; k < n; k++) {
            r.did("office", 1, 0);
        }
        return r;
    }

    private static void ties() {
        Run r = withOffices("A TIE of two OFFICES: 0 to 20 (0 at first)", 10);
        r.due(0, "tie", 0, 9, 20).due(20, "tie", 9, 0, 1).due(1, "tie", 0, 9, 0).due(0, "tie", 9, 0, 0);
        r.refused(-6, "tie", 0, 9, -1).refused(-6, "tie", 0, 9, 21);
        r.refused(-6, "tie", 0, 9, LEAST).refused(-6, "tie", 0, 9, GREATEST);
        Run each = withOffices("a TIE for each two", 5);
        for (int a = 0; a < 5; a++) {
            for (int b = 0; b < a; b++) {
                each.due(0, "tie", a, b, 4 * a + b);
            }
        }
        for (int a = 0; a < 5; a++) {
            for (int b = 0; b < a; b++) {
                each.due(4 * a + b, "tie", b, a, 0);
            }
        }
    }

    private static void tiesRefused() {
        Run r = withOffices("tie: -1", 2);
        r.refused(-1, "tie", 2, 0, 1).refused(-1, "tie", 0, 2, 1);
        r.refused(-1, "tie", -1, 0, 1).refused(-1, "tie", 0, -1, 1);
        r.refused(-1, "tie", GREATEST, 0, 1).refused(-1, "tie", 0, LEAST, 1);
        Run same = withOffices("tie: -6 a is b", 2);
        same.refused(-6, "tie", 0, 0, 1).refused(-6, "tie", 1, 1, 0);
        Run first = withOffices("tie: -1 ahead of -6", 2);
        first.refused(-1, "tie", 2, 2, 1).refused(-1, "tie", -1, -1, 1);
        first.refused(-1, "tie", 2, 0, 21).refused(-1, "tie", 0, 2, -1);
    }

    private static void tiesAtAnyTime() {
        Run r = withOffices("All these, but TIES, are told ahead of BEGIN", 3);
        r.did("building", 1, 0).did("give", 0, 0).did("stay", 2, 1).did("tie", 0, 1, 3).did("begin");
        r.due(3, "tie", 0, 1, 4).did("next").due(4, "tie", 0, 1, 5).due(0, "tie", 0, 2, 6);
        for (int wave = 1; wave < 5; wave++) {
            r.did("next");
        }
        r.due(5, "tie", 1, 0, 20).due(6, "tie", 2, 0, 0).due(100, "cost");
    }

    // ---- promise 4

    private static void buildings() {
        Run r = new Run("BUILDINGS: DESKS 1 to 120");
        r.due(0, "building", 1, 0).due(1, "building", 120, 0);
        r.refused(-6, "building", 0, 0).refused(-6, "building", 121, 0).refused(-6, "building", -1, 0);
        r.refused(-6, "building", LEAST, 0).refused(-6, "building", GREATEST, 0);
        Run ready = new Run("READY from a WAVE on");
        ready.due(0, "building", 1, 0).due(1, "building", 1, 4);
        ready.refused(-1, "building", 1, -1).refused(-1, "building", 1, 5);
        ready.refused(-1, "building", 1, LEAST).refused(-1, "building", 1, GREATEST);
        for (int from = 0; from < 5; from++) {
            for (int wave = 0; wave < 5; wave++) {
                Run on = new Run("READY from " + from + " on, wanted by " + wave);
                on.did("office", 7, 0).did("building", 7, from).did("give", 0, wave);
                on.due(wave < from ? wave : 5, "legal");
            }
        }
    }

    private static void buildingsRefused() {
        Run r = new Run("BUILDINGS have numbers, from 0 on, 6 at most");
        for (int k = 0; k < 6; k++) {
            r.due(k, "building", 120, 4);
        }
        r.refused(-7, "building", 1, 0).due(6, "status", 1);
        Run first = new Run("building: -1 ahead of -6 ahead of -7");
        first.refused(-1, "building", 0, 5).refused(-1, "building", 121, -1);
        for (int k = 0; k < 6; k++) {
            first.did("building", 1, 0);
        }
        first.refused(-1, "building", 1, 5).refused(-1, "building", 0, 5);
        first.refused(-6, "building", 0, 0).refused(-6, "building", 121, 4);
        first.did("begin").refused(-6, "building", 1, 0).refused(-1, "building", 1, 5);
        Run begun = new Run("building: -6 behind BEGIN");
        begun.did("begin").refused(-6, "building", 1, 0).refused(-1, "building", 1, -1);
    }

    // ---- promise 5

    private static void lateAheadOfBegin() {
        Run r = new Run("late: READY from another WAVE on");
        r.did("building", 1, 0).did("building", 1, 4);
        r.due(0, "late", 0, 4).due(4, "late", 0, 0).due(0, "late", 0, 0).due(4, "late", 1, 0).due(0, "late", 1, 2);
        r.refused(-1, "late", 2, 0).refused(-1, "late", -1, 0).refused(-1, "late", GREATEST, 0);
        r.refused(-1, "late", 0, 5).refused(-1, "late", 0, -1).refused(-1, "late", 0, LEAST);
        r.did("office", 1, 0).did("office", 1, 0).did("give", 0, 0).did("give", 1, 1).due(1, "legal");
        r.due(2, "late", 1, 1).due(5, "legal").due(0, "late", 0, 1).due(0, "legal");
    }

    private static void lateBehindBegin() {
        Run r = new Run("READY may change later");
        r.did("building", 1, 0).did("building", 1, 4).did("begin");
        r.due(0, "late", 0, 4).due(4, "late", 0, 0).due(4, "late", 1, 0).due(0, "late", 1, 1);
    }

    private static void lateRefused() {
        Run r = new Run("late: -6 it was READY in a WAVE that was lived, or would be");
        for (int wave = 0; wave < 5; wave++) {
            r.did("building", 1, wave);
        }
        r.did("begin").did("next").did("next");
        r.refused(-6, "late", 0, 4).refused(-6, "late", 1, 4).refused(-6, "late", 1, 2).refused(-6, "late", 1, 1);
        r.due(2, "late", 2, 4).due(4, "late", 2, 2);
        r.refused(-6, "late", 3, 0).refused(-6, "late", 3, 1).due(3, "late", 3, 2).due(2, "late", 3, 3);
        r.due(4, "late", 4, 4);
        r.did("next").did("next").did("next");
        for (int k = 0; k < 5; k++) {
            r.refused(-6, "late", k, 4);
        }
        Run first = new Run("late: -1 ahead of -6");
        first.did("building", 1, 0).did("begin").did("next");
        first.refused(-1, "late", 0, 5).refused(-1, "late", 0, -1).refused(-1, "late", 1, 0);
    }

    // ---- promise 6

    private static void ready() {
        for (int what = 0; what < 2; what++) {
            Run r = new Run("FLATS and school SEATS (0 to 400 each; 0 at first)");
            for (int wave = 0; wave < 5; wave++) {
                r.due(0, "ready", wave, what, 400).due(400, "ready", wave, what, 0);
                r.due(0, "ready", wave, what, 100 + wave);
            }
            for (int wave = 0; wave < 5; wave++) {
                r.due(0, "ready", wave, 1 - what, 0).due(100 + wave, "ready", wave, what, 1);
            }
            r.refused(-6, "ready", 0, what, -1).refused(-6, "ready", 4, what, 401);
            r.refused(-6, "ready", 0, what, LEAST).refused(-6, "ready", 4, what, GREATEST);
        }
    }

    private static void readyRefused() {
        Run r = new Run("ready: -1");
        r.refused(-1, "ready", 5, 0, 1).refused(-1, "ready", -1, 1, 1).refused(-1, "ready", GREATEST, 0, 1);
        Run what = new Run("ready: -6 what");
        what.refused(-6, "ready", 0, -1, 1).refused(-6, "ready", 4, 2, 1).refused(-6, "ready", 0, LEAST, 1);
        Run begun = new Run("ready: -6 behind BEGIN");
        begun.did("ready", 0, 0, 7).did("begin").refused(-6, "ready", 0, 0, 1).refused(-6, "ready", 4, 1, 400);
        begun.due(0, "next").due(7, "town", 1);
        begun.refused(-1, "ready", 5, 0, 1);
        Run first = new Run("ready: -1 ahead of -6");
        first.refused(-1, "ready", 5, 2, 1).refused(-1, "ready", -1, 0, 401).refused(-1, "ready", 5, 0, -1);
    }

    // ---- promise 7

    private static void limits() {
        Run most = new Run("MOST (1 to 400; 400 at first)");
        most.due(400, "limit", 0, 1).due(1, "limit", 0, 400).due(400, "limit", 0, 400);
        most.refused(-6, "limit", 0, 0).refused(-6, "limit", 0, 401).refused(-6, "limit", 0, LEAST);
        Run train = new Run("THE TRAIN (0 to 400; 400 at first)");
        train.due(400, "town", 3).due(400, "limit", 1, 0).due(0, "town", 3).due(0, "limit", 1, 400);
        train.due(400, "town", 3).refused(-6, "limit", 1, -1).refused(-6, "limit", 1, 401);
        train.refused(-6, "limit", 1, GREATEST);
        Run rent = new Run("RENT (0 to 1,000; told ahead of BEGIN, 20 at first)");
        rent.due(20, "town", 0).due(20, "limit", 2, 0).due(0, "town", 0).due(0, "limit", 2, 1000);
        rent.due(1000, "town", 0).refused(-6, "limit", 2, -1).refused(-6, "limit", 2, 1001);
        rent.refused(-6, "limit", 2, LEAST).due(1000, "limit", 2, 401);
    }

    private static void limitsRefused() {
        Run what = new Run("limit: -6 what");
        what.refused(-6, "limit", -1, 1).refused(-6, "limit", 3, 1).refused(-6, "limit", LEAST, 1);
        what.refused(-6, "limit", GREATEST, 1);
        Run begun = new Run("limit: -6 behind BEGIN");
        begun.did("begin").refused(-6, "limit", 0, 1).refused(-6, "limit", 1, 1).refused(-6, "limit", 2, 1);
        begun.due(20, "town", 0).due(400, "town", 3);
    }

    // ---- promise 8

    private static void folk() {
        Run r = withOffices("each OFFICE has 0 to 40 of each KIND (0 at first)", 10);
        for (int k = 0; k < 10; k++) {
            for (int kind = 0; kind < 3; kind++) {
                r.due(0, "folk", k, kind, 40).due(40, "folk", k, kind, 3 * k + kind);
            }
        }
        for (int k = 0; k < 10; k++) {
            for (int kind = 0; kind < 3; kind++) {
                r.due(3 * k + kind, "folk", k, kind, 40);
            }
        }
        r.due(1200, "status", 18).due(120, "people", 9, 0).due(40, "folk", 9, 2, 0).due(80, "people", 9, 0);
        r.due(1160, "status", 18).due(0, "folk", 9, 2, 1);
        Run wrong = withOffices("folk: -6 n", 1);
        wrong.refused(-6, "folk", 0, 0, -1).refused(-6, "folk", 0, 2, 41);
        wrong.refused(-6, "folk", 0, 0, LEAST).refused(-6, "folk", 0, 0, GREATEST);
    }

    private static void folkRefused() {
        Run r = withOffices("folk: -1", 2);
        r.refused(-1, "folk", 2, 0, 1).refused(-1, "folk", -1, 0, 1).refused(-1, "folk", GREATEST, 0, 1);
        r.refused(-1, "folk", 0, 3, 1).refused(-1, "folk", 0, -1, 1).refused(-1, "folk", 1, LEAST, 1);
        Run begun = withOffices("folk: -6 behind BEGIN", 1);
        begun.did("folk", 0, 1, 5).did("begin").refused(-6, "folk", 0, 1, 6).due(5, "people", 0, 0);
        begun.refused(-1, "folk", 1, 0, 1).refused(-1, "folk", 0, 3, 1);
        Run first = withOffices("folk: -1 ahead of -6", 1);
        first.refused(-1, "folk", 1, 0, 41).refused(-1, "folk", 0, 3, -1);
    }

    // ---- promise 9

    private static void kinds() {
        Run r = new Run("HOME, SPOUSE, CHILDREN, FARE, LOSS (0 to 100 each; 0 at first)");
        for (int kind = 0; kind < 3; kind++) {
            for (int what = 0; what < 5; what++) {
                r.due(0, "kind", kind, what, 100).due(100, "kind", kind, what, 5 * kind + what);
            }
        }
        for (int kind = 0; kind < 3; kind++) {
            for (int what = 0; what < 5; what++) {
                r.due(5 * kind + what, "kind", kind, what, 0);
            }
        }
        for (int what = 0; what < 5; what++) {
            r.refused(-6, "kind", 0, what, -1).refused(-6, "kind", 2, what, 101);
        }
        r.refused(-6, "kind", 0, 0, LEAST).refused(-6, "kind", 0, 0, GREATEST);
    }

    private static void kindsRefused() {
        Run r = new Run("kind: -1");
        r.refused(-1, "kind", 3, 0, 1).refused(-1, "kind", -1, 0, 1).refused(-1, "kind", GREATEST, 0, 1);
        Run what = new Run("kind: -6 what");
        what.refused(-6, "kind", 0, 5, 1).refused(-6, "kind", 2, -1, 1).refused(-6, "kind", 0, LEAST, 1);
        Run begun = new Run("kind: -6 behind BEGIN");
        begun.did("begin").refused(-6, "kind", 0, 0, 1).refused(-6, "kind", 2, 4, 100);
        begun.refused(-1, "kind", 3, 0, 1);
        Run first = new Run("kind: -1 ahead of -6");
        first.refused(-1, "kind", 3, 5, 1).refused(-1, "kind", -1, 0, 101).refused(-1, "kind", 3, 0, -1);
    }
}
