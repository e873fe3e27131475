/** Promises 17 to 24: a test for each sentence of the document that names a boundary. */
public final class EdgesOfPlansTest {
    private static final long LEAST = Integer.MIN_VALUE;
    private static final long GREATEST = Integer.MAX_VALUE;

    private EdgesOfPlansTest() {
    }

    public static void main(String[] args) {
        stays();
        staysRefused();
        gives();
        givesWrongWaves();
        givesRefused();
        rowsOfWaves();
        rowsOfWavesAsInts();
        rowsOfWavesRefused();
        rowsOfWavesWrong();
        plansRefused();
        plansOfSix();
        plansThatAreNot();
        byRuleInOrder();
        byRuleEarliest();
        byRuleOthersLeftOut();
        plansNeedFlatsAndSeats();
        plansOfTen();
        movedKeepTheirs();
        swapsNeedARule();
        swapsOfLikeCost();
        swapsOfLikeExchanges();
        best();
        mendChangesFewest();
        mendOfLikeChanges();
        wavesAndCuts();
        costs();
        legalDesks();
        legalMost();
        legalFlats();
        legalSeats();
        legalReadyByThen();
        Due.end();
    }

    private static Run offices(String sentence, int... desks) {
        Run r = new Run(sentence);
        for (int n : desks) {
            r.did("office", n, 0);
        }
        return r;
    }

    private static Run live(Run r, int waves) {
        r.did("begin");
        for (int wave = 0; wave < waves; wave++) {
            r.did("next");
        }
        return r;
    }

    // ---- promise 17

    private static void stays() {
        Run r = offices("An OFFICE STAYS, or not (it has no WAVE then): 1 if that was otherwise, else 0", 1, 1);
        r.did("give", 0, 3).did("give", 1, 4);
        r.due(1, "stay", 0, 1).waves(-1, 4).asked(0, "stay", 0, 1).due(1, "status", 3);
        r.due(1, "stay", 0, 0).waves(-1, 4).asked(0, "stay", 0, 0).due(0, "status", 3);
        r.did("give", 0, 3).asked(0, "stay", 0, 0).waves(3, 4);
        Run ten = offices("stay: all of ten", 1, 1, 1, 1, 1, 1, 1, 1, 1, 1);
        for (int k = 0; k < 10; k++) {
            ten.due(1, "stay", k, 1).due(k + 1, "status", 3);
        }
    }

    private static void staysRefused() {
        Run r = offices("stay: -1", 1);
        r.refused(-1, "stay", 1, 1).refused(-1, "stay", -1, 0).refused(-1, "stay", GREATEST, 1);
        r.refused(-1, "stay", LEAST, 0);
        Run moved = offices("stay: -6 it is MOVED", 1, 1, 1);
        moved.did("building", 2, 0).did("give", 0, 0).did("give", 1, 1);
        moved.did("begin").due(1, "stay", 0, 1).due(1, "stay", 0, 0).did("give", 0, 0).did("next");
        moved.refused(-6, "stay", 0, 1).refused(-6, "stay", 0, 0).due(1, "stay", 1, 1).due(1, "stay", 1, 0);
        for (int wave = 1; wave < 5; wave++) {
            moved.did("next");
        }
        moved.refused(-6, "stay", 0, 1).due(1, "stay", 2, 1).due(1, "stay", 2, 0);
    }

    // ---- promise 18

    private static void gives() {
        Run r = offices("give: WAVES are 0 to 4, or none (NONE): what it was (NONE)", 1, 1);
        r.due(-1, "give", 0, 0).due(0, "give", 0, 4).due(4, "give", 0, 4).due(4, "give", 0, -1);
        r.none("give", 0, -1).due(0, "status", 11);
        r.due(-1, "give", 1, 2).due(2, "give", 1, 3).waves(-1, 3);
        r.due(3, "legal").due(1, "begin");
    }

    private static void givesWrongWaves() {
        Run r = offices("give: -1: also no such WAVE", 1);
        r.did("give", 0, 2);
        r.refused(-1, "give", 0, 5).refused(-1, "give", 0, -2);
        r.refused(-1, "give", 0, GREATEST).refused(-1, "give", 0, LEAST);
        r.refused(-1, "give", 1, 0).refused(-1, "give", -1, 0).refused(-1, "give", 1, -1);
        r.refused(-1, "give", LEAST, 0).waves(2);
    }

    private static void givesRefused() {
        Run stays = offices("give: -6 it STAYS", 1);
        stays.did("stay", 0, 1).refused(-6, "give", 0, 0).refused(-6, "give", 0, 4).refused(-6, "give", 0, -1);
        stays.refused(-1, "give", 0, 5).refused(-1, "give", 0, -2);
        Run r = offices("give: -6 it is MOVED, the WAVE is past", 1, 1);
        r.did("building", 1, 0).did("give", 0, 0).did("begin").due(-1, "give", 1, 0).due(0, "give", 1, -1).did("next");
        r.refused(-6, "give", 0, 0).refused(-6, "give", 0, 1).refused(-6, "give", 0, -1);
        r.refused(-1, "give", 0, 5).refused(-1, "give", 0, -2).refused(-1, "give", 2, 0);
        r.refused(-6, "give", 1, 0).due(-1, "give", 1, 1).due(1, "give", 1, -1).did("next");
        r.refused(-6, "give", 1, 1).due(-1, "give", 1, 2).due(2, "give", 1, 4).due(4, "give", 1, -1);
        r.did("next").did("next").refused(-6, "give", 1, 3).due(-1, "give", 1, 4).due(4, "give", 1, -1).did("next");
        r.refused(-6, "give", 1, 4).none("give", 1, -1).waves(0, -1);
    }

    // ---- promise 19

    private static void rowsOfWaves() {
        Run r = offices("gives: WAVES of OFFICES by the elements of the ROW", 1, 1, 1);
        r.row(0, 2, 0, 4, -1).due(2, "gives", 0).waves(0, 4, -1).asked(0, "gives", 0);
        r.row(0, 2, 0, 3, 2).due(2, "gives", 0).waves(0, 3, 2);
        r.row(0, 2, -1, -1, -1).due(3, "gives", 0).waves(-1, -1, -1);
        Run more = offices("gives: more elements than OFFICES", 1, 1);
        more.row(0, 2, 1, 1, 77, -9).due(2, "gives", 0).waves(1, 1);
        Run none = new Run("gives: no OFFICES");
        none.row(0, 2).asked(0, "gives", 0).row(0, 2, 9).asked(0, "gives", 0);
    }

    private static void rowsOfWavesAsInts() {
        for (int sort = 0; sort < 4; sort++) {
            Run r = offices("gives: as ints; -1 none: SORT " + sort, 1, 1);
            r.did("give", 1, 0).row(7, sort, 4, -1).due(2, "gives", 7).waves(4, -1);
        }
        Run longs = offices("gives: as ints of longs", 1, 1, 1);
        longs.did("give", 1, 3).row(0, 3, 1L << 32, 0xffffffffL, (7L << 40) + 4).due(3, "gives", 0).waves(0, -1, 4);
        longs.row(0, 3, 1L << 31, -1, 4).refused(-6, "gives", 0).waves(0, -1, 4);
        Run bytes = offices("gives: of bytes that kept their lowest bits", 1, 1);
        bytes.did("give", 0, 0).row(0, 0, 255, 256 + 4).due(2, "gives", 0).waves(-1, 4);
    }

    private static void rowsOfWavesRefused() {
        Run r = offices("gives: -1; -2; -3", 1);
        r.did("show", 1, 0);
        r.refused(-1, "gives", 8).refused(-1, "gives", -1).refused(-1, "gives", GREATEST).refused(-1, "gives", LEAST);
        r.refused(-2, "gives", 1).refused(-3, "gives", 2);
        Run fewer = offices("gives: -5 fewer elements than OFFICES", 1, 1);
        fewer.row(0, 2, 1).refused(-5, "gives", 0).row(1, 2).refused(-5, "gives", 1);
        fewer.row(0, 2, 1, 1).due(2, "gives", 0);
        Run first = offices("gives: -5 ahead of -6", 1, 1);
        first.row(0, 2, 5).refused(-5, "gives", 0).did("stay", 0, 1).row(0, 2, 0).refused(-5, "gives", 0);
    }

    private static void rowsOfWavesWrong() {
        Run r = offices("gives: -6 one that give() would refuse (then nothing is changed)", 1, 1, 1);
        r.did("building", 1, 0).row(0, 2, 1, 2, 5).refused(-6, "gives", 0);
        r.row(0, 2, 1, 2, -2).refused(-6, "gives", 0).row(0, 2, 5, 1, 2).refused(-6, "gives", 0);
        r.row(0, 2, 1, GREATEST, 2).refused(-6, "gives", 0).row(0, 2, 1, LEAST, 2).refused(-6, "gives", 0);
        r.waves(-1, -1, -1).did("stay", 2, 1).did("give", 0, 0);
        r.row(0, 2, 1, 1, 0).refused(-6, "gives", 0).waves(0, -1, -1);
        Run has = offices("gives: -6 .. but that it has already", 1, 1, 1);
        has.did("building", 1, 0).did("stay", 2, 1).did("give", 0, 0);
        live(has, 2);
        has.row(0, 2, 0, 4, -1).due(1, "gives", 0).waves(0, 4, -1).asked(0, "gives", 0);
        has.row(0, 2, 0, 2, -1).due(1, "gives", 0).waves(0, 2, -1);
        has.row(0, 2, 0, 1, -1).refused(-6, "gives", 0).row(0, 2, 1, 3, -1).refused(-6, "gives", 0);
        has.row(0, 2, -1, 3, -1).refused(-6, "gives", 0).row(0, 2, 0, 3, 3).refused(-6, "gives", 0);
        has.row(0, 2, 3, 3, -1).refused(-6, "gives", 0).waves(0, 2, -1);
        has.row(0, 2, 0, -1, -1).due(1, "gives", 0).waves(0, -1, -1);
    }

    // ---- promise 20

    private static void plansRefused() {
        Run r = offices("plan: -6 another way", 1);
        r.did("building", 1, 0).refused(-6, "plan", -1).refused(-6, "plan", 4);
        r.refused(-6, "plan", LEAST).refused(-6, "plan", GREATEST);
        Run seven = offices("plan: -6 another way ahead of -7, -7 ahead of no such PLAN", 1, 1, 1, 1, 1, 1, 1);
        seven.refused(-6, "plan", 4).refused(-6, "plan", -1);
        seven.refused(-7, "plan", 2).refused(-7, "plan", 3).refused(-6, "plan", 0).refused(-6, "plan", 1);
        seven.did("building", 7, 0).refused(-7, "plan", 2).refused(-7, "plan", 3);
        seven.due(0, "plan", 0).due(0, "plan", 1).waves(0, 0, 0, 0, 0, 0, 0);
    }

    private static void plansOfSix() {
        Run r = offices("plan: -7 (2, 3) more than 6 OFFICES neither MOVED nor STAYING", 1, 1, 1, 1, 1, 1);
        r.did("building", 10, 0).due(0, "plan", 2).due(0, "plan", 3).did("office", 1, 0);
        r.refused(-7, "plan", 2).refused(-7, "plan", 3);
        r.did("stay", 2, 1).due(0, "plan", 2).due(0, "plan", 3).waves(0, 0, -1, 0, 0, 0, 0);
        r.did("stay", 2, 0).refused(-7, "plan", 3);
        r.row(0, 2, 0, 1, 1, 1, 1, 1, 1).did("gives", 0).did("begin").refused(-7, "plan", 2).did("next");
        r.due(0, "plan", 2).due(0, "plan", 3).waves(0, 1, 1, 1, 1, 1, 1);
        Run ten = offices("plan: 10 OFFICES, 6 that don't STAY", 1, 1, 1, 1, 1, 1, 1, 1, 1, 1);
        ten.did("building", 10, 0).did("stay", 0, 1).did("stay", 3, 1).did("stay", 9, 1);
        ten.refused(-7, "plan", 2).did("stay", 6, 1).due(0, "plan", 2).waves(-1, 0, 0, -1, 0, 0, -1, 0, 0, -1);
    }

    private static void plansThatAreNot() {
        Run r = offices("plan: -6 there is no such PLAN (it stays as it was)", 10, 10);
        r.did("building", 19, 0).did("give", 0, 3);
        for (int way = 0; way < 4; way++) {
            r.refused(-6, "plan", way).waves(3, -1);
        }
        r.did("building", 1, 4);
        r.due(0, "plan", 3).waves(3, 4).due(0, "plan", 0).waves(0, 4);
        Run past = offices("plan: all WAVES are past", 10, 10);
        past.did("building", 20, 0).did("give", 0, 0);
        live(past, 5);
        for (int way = 0; way < 4; way++) {
            past.refused(-6, "plan", way);
        }
        past.did("stay", 1, 1);
        for (int way = 0; way < 4; way++) {
            past.asked(0, "plan", way);
        }
        Run last = offices("plan: the last WAVE is not past", 10, 10);
        last.did("building", 20, 0).did("give", 0, 0);
        live(last, 4);
        for (int way = 0; way < 4; way++) {
            last.due(0, "plan", way).waves(0, 4);
        }
    }

    private static void byRuleInOrder() {
        for (int rank = 0; rank < 9; rank++) {
            Run r = new Run("BY RULE: by RANK, the greatest first: " + rank);
            r.did("office", 10, rank).did("office", 10, rank + 1).did("building", 10, 0).did("building", 10, 4);
            r.due(0, "plan", 0).waves(4, 0);
        }
        Run like = new Run("BY RULE: of like ones the lesser number");
        like.did("office", 10, 3).did("office", 10, 9).did("office", 10, 3).did("office", 10, 9);
        for (int wave = 0; wave < 4; wave++) {
            like.did("building", 10, wave);
        }
        like.due(0, "plan", 0).waves(2, 0, 3, 1);
    }

    private static void byRuleEarliest() {
        Run r = new Run("BY RULE: the earliest WAVE with which the PLAN is LEGAL, in later WAVES too");
        r.did("office", 10, 9).did("folk", 0, 0, 1).did("ready", 2, 0, 1).did("office", 10, 5);
        r.did("building", 10, 0).did("building", 10, 3).due(0, "plan", 0).waves(2, 3);
        Run most = offices("BY RULE: MOST in each of the five WAVES", 7, 3, 7, 7, 3, 7, 3, 3);
        most.did("building", 100, 0).did("limit", 0, 10).due(0, "plan", 0).waves(0, 0, 1, 2, 1, 3, 2, 3);
        most.did("office", 4, 9).due(0, "plan", 0).waves(1, 0, 2, 3, 0, 4, 1, 2, 0);
        Run none = offices("BY RULE: no PLAN if one gets none", 7, 7, 7, 7, 7);
        none.did("building", 100, 0).did("limit", 0, 10).due(0, "plan", 0).waves(0, 1, 2, 3, 4);
        none.did("office", 3, 0).due(0, "plan", 0).waves(0, 1, 2, 3, 4, 0);
        none.did("office", 4, 0).refused(-6, "plan", 0).waves(0, 1, 2, 3, 4, 0, -1);
    }

    private static void byRuleOthersLeftOut() {
        Run r = new Run("BY RULE: the others left out");
        r.did("office", 10, 0).did("office", 10, 9).did("building", 10, 0).did("building", 10, 4);
        r.did("give", 0, 0).due(0, "plan", 0).waves(4, 0);
        r.did("give", 1, 4).did("give", 0, 0).due(0, "plan", 0).waves(4, 0);
        r.did("stay", 1, 1).due(0, "plan", 0).waves(0, -1);
        Run most = new Run("BY RULE: MOST of those that have a WAVE already");
        most.did("office", 10, 0).did("office", 10, 9).did("building", 20, 0).did("limit", 0, 10);
        most.did("give", 0, 0).due(0, "plan", 0).waves(1, 0);
    }

    /** Two offices of 2 households each: 3 in wave 1 lack one, 4 in wave 3 are enough. */
    private static void plansNeedFlatsAndSeats() {
        for (int what = 0; what < 2; what++) {
            for (int way = 0; way < 4; way++) {
                Run r = offices("a PLAN needs " + (what == 0 ? "FLATS" : "SEATS") + ": way " + way, 1, 1);
                r.did("building", 2, 0).did("kind", 1, 2, 1).did("folk", 0, 1, 2).did("folk", 1, 1, 2);
                r.did("ready", 0, 1 - what, 4).did("ready", 1, what, 3).refused(-6, "plan", way);
                r.did("ready", 3, what, 1).due(0, "plan", way).waves(1, 3).asked(5, "legal");
                r.did("folk", 1, 1, 1).due(0, "plan", way).waves(1, way == 3 ? 3 : 1);
                r.did("folk", 1, 1, 2).did("ready", 1, what, 4).did("tie", 0, 1, 1).did("plan", way);
                r.did("ready", 1, what, 0).did("ready", 3, what, 4).due(0, "plan", way).waves(3, 3);
            }
        }
    }

    private static void plansOfTen() {
        Run r = offices("BY RULE, BY SWAPS: all of ten", 10, 10, 10, 10, 10, 10, 10, 10, 10, 10);
        r.did("building", 100, 0).did("limit", 0, 20).did("tie", 0, 9, 1).did("tie", 1, 8, 1);
        r.due(8, "plan", 0).waves(0, 0, 1, 1, 2, 2, 3, 3, 4, 4);
        // 0 and 8 exchanged cost 0, and so do 1 and 9.
        r.due(0, "plan", 1).waves(4, 0, 1, 1, 2, 2, 3, 3, 0, 4).due(5, "legal");
    }

    private static void movedKeepTheirs() {
        for (int way = 0; way < 4; way++) {
            Run r = offices("MOVED OFFICES keep their WAVE, others get none that is past: way " + way, 10, 10, 10);
            r.did("building", 10, 0).did("building", 20, 3).did("give", 0, 0).did("tie", 0, 1, 5);
            live(r, 1);
            r.due(15, "plan", way).waves(0, 3, 3);
        }
        Run most = offices("BY SWAPS: MOVED OFFICES exchange with none", 10, 10, 10);
        most.did("building", 30, 0).did("limit", 0, 10).did("give", 0, 0).did("tie", 0, 2, 1).did("tie", 0, 1, 1);
        live(most, 2);
        most.due(5, "plan", 1).waves(0, 2, 3);
        Run second = offices("BY SWAPS: none exchanges with MOVED OFFICES", 10, 10, 10);
        second.did("building", 30, 0).did("limit", 0, 10).did("give", 2, 0).did("tie", 1, 2, 1);
        live(second, 2);
        // 0 and 1 exchanged cost 2; office 2, if it weren't MOVED, would exchange with 0 at 1.
        second.due(3, "plan", 0).waves(2, 3, 0).due(2, "plan", 1).waves(3, 2, 0);
        Run stays = offices("BY SWAPS: what STAYS exchanges with none", 10, 10);
        stays.did("building", 30, 0).did("stay", 0, 1).did("tie", 0, 1, 1).due(1, "plan", 1).waves(-1, 4);
        Run with = offices("BY SWAPS: none exchanges with what STAYS", 10, 10, 10);
        with.did("building", 30, 0).did("stay", 1, 1).did("tie", 1, 2, 1).due(1, "plan", 1).waves(0, -1, 4);
    }

    private static void swapsNeedARule() {
        Run r = new Run("BY SWAPS: none BY RULE");
        r.did("office", 4, 9).did("office", 4, 8).did("office", 6, 7).did("office", 6, 6);
        r.did("building", 40, 3).did("limit", 0, 10);
        r.refused(-6, "plan", 0).refused(-6, "plan", 1);
        // 4 and 6 desks together in each of the two waves: the lesser wave for office 0.
        r.due(0, "plan", 2).waves(3, 4, 3, 4).refused(-6, "plan", 1);
        Run from = offices("BY SWAPS: from that BY RULE on, not from what is now", 10, 10);
        from.did("building", 20, 0).did("give", 0, 3).did("give", 1, 2).due(0, "plan", 1).waves(0, 0);
        Run equal = offices("BY SWAPS: as long as it is less than before", 10, 10);
        equal.did("building", 20, 0).did("limit", 0, 10).did("tie", 0, 1, 3).due(3, "plan", 1).waves(0, 1);
    }

    private static Run three(String sentence, long ready, long most) {
        Run r = offices(sentence, 10, 10, 10);
        return r.did("building", 100, ready).did("limit", 0, most);
    }

    private static void swapsOfLikeCost() {
        Run least = three("BY SWAPS: that of least COST is taken", 0, 20).did("tie", 1, 2, 2).did("tie", 0, 2, 1);
        // From 0, 0, 1 (cost 3): office 0 to 1 costs 2, office 1 to 1 costs 1.
        least.due(3, "plan", 0).waves(0, 0, 1).due(1, "plan", 1).waves(0, 1, 1);
        Run two = three("BY SWAPS: one OFFICE ahead of two", 1, 20).did("tie", 0, 2, 1);
        // From 1, 1, 2 (cost 1): office 0 to 2 costs 0, and so do 1 and 2 exchanged.
        two.due(1, "plan", 0).waves(1, 1, 2).due(0, "plan", 1).waves(2, 1, 2);
        Run office = three("BY SWAPS: the lesser OFFICE", 2, 20).did("tie", 0, 2, 1).did("tie", 1, 2, 1);
        // From 2, 2, 3 (cost 2): office 0 to 3 costs 1, and so does office 1 to 3.
        office.due(2, "plan", 0).waves(2, 2, 3).due(1, "plan", 1).waves(3, 2, 3);
        Run wave = offices("BY SWAPS: then the lesser WAVE", 10, 10, 10).did("building", 20, 0);
        wave.did("building", 10, 4).did("limit", 0, 10).did("tie", 0, 1, 1).did("tie", 0, 2, 1);
        // From 0, 1, 4 (cost 5): office 0 to 2 costs 3, and so does office 0 to 3.
        wave.due(5, "plan", 0).waves(0, 1, 4).due(3, "plan", 1).waves(2, 1, 4);
    }

    private static void swapsOfLikeExchanges() {
        Run first = three("BY SWAPS: of two the lesser OFFICE", 2, 10).did("tie", 0, 2, 1);
        // From 2, 3, 4 (cost 2): 0 and 1 exchanged cost 1, and so do 1 and 2.
        first.due(2, "plan", 0).waves(2, 3, 4).due(1, "plan", 1).waves(3, 2, 4);
        Run second = offices("BY SWAPS: of two then the lesser second OFFICE", 10, 10, 10, 10);
        for (int wave = 0; wave < 5; wave++) {
            second.did("building", 10, wave);
        }
        second.did("limit", 0, 10).did("tie", 0, 2, 1);
        // From 0, 1, 2, 3 (cost 2): 0 and 1 exchanged cost 1, and so do 0 and 3.
        second.due(2, "plan", 0).waves(0, 1, 2, 3).due(1, "plan", 1).waves(1, 0, 2, 3);
    }

    private static void best() {
        Run r = offices("BEST: of several that in which OFFICE 0 has the lesser WAVE, then OFFICE 1", 10, 10, 10);
        r.did("building", 10, 0).did("building", 20, 2).did("limit", 0, 20).due(0, "plan", 2).waves(0, 2, 2);
        r.did("tie", 0, 2, 1).due(0, "plan", 2).waves(2, 0, 2);
        r.did("tie", 1, 2, 1).due(1, "plan", 2).waves(1, 2, 2);
        r.did("limit", 0, 30).due(0, "plan", 2).waves(2, 2, 2);
        Run least = offices("BEST: least COST where BY SWAPS finds none less", 10, 10, 10, 10);
        least.did("building", 40, 0).did("limit", 0, 20);
        least.did("tie", 0, 2, 9).did("tie", 1, 3, 9).did("tie", 0, 1, 1).did("tie", 2, 3, 1);
        least.due(2, "plan", 2).waves(0, 1, 0, 1);
        Run alone = offices("BEST: what STAYS pulls to the last WAVE", 10, 10);
        alone.did("building", 10, 0).did("stay", 1, 1).did("tie", 0, 1, 20).due(20, "plan", 2).waves(4, -1);
    }

    private static void mendChangesFewest() {
        Run r = offices("TO MEND: fewest OFFICES have another WAVE than now", 10, 10);
        r.did("building", 20, 0).did("tie", 0, 1, 20).did("give", 0, 0).did("give", 1, 4);
        r.due(80, "plan", 3).waves(0, 4).due(0, "plan", 2).waves(0, 0);
        Run none = offices("TO MEND: (or none now)", 10, 10);
        none.did("building", 20, 0).did("give", 1, 3).due(0, "plan", 3).waves(0, 3);
        none.did("give", 0, -1).did("tie", 0, 1, 1).due(0, "plan", 3).waves(3, 3);
        none.did("give", 0, -1).did("give", 1, -1).due(0, "plan", 3).waves(0, 0);
        Run all = offices("TO MEND: all are changed where all must be", 10, 10);
        all.did("building", 20, 2).did("give", 0, 0).did("give", 1, 1).did("tie", 0, 1, 1);
        all.due(0, "plan", 3).waves(2, 2);
        Run cost = offices("TO MEND: one change less ahead of any COST", 10, 10, 10, 10, 10, 10);
        cost.did("building", 50, 0).did("building", 10, 4).did("limit", 0, 400);
        for (int k = 1; k < 6; k++) {
            cost.did("give", k, 0).did("tie", 0, k, 20);
        }
        cost.did("give", 0, 4).due(400, "plan", 3).waves(4, 0, 0, 0, 0, 0);
        cost.did("give", 0, 0).due(80, "plan", 3).waves(0, 0, 0, 0, 0, 4);
    }

    private static void mendOfLikeChanges() {
        Run r = offices("TO MEND: of these that of least COST", 10, 10, 10);
        r.did("building", 20, 0).did("building", 10, 4);
        r.row(0, 2, 0, 0, 0).did("gives", 0).did("tie", 1, 2, 1).due(0, "plan", 3).waves(4, 0, 0);
        r.did("gives", 0).did("tie", 0, 1, 1).due(4, "plan", 3).waves(0, 0, 4);
        Run wave = offices("TO MEND: then as BEST", 10, 10, 10);
        wave.did("building", 30, 0).did("limit", 0, 20).row(0, 2, 2, 2, 2).did("gives", 0);
        wave.due(0, "plan", 3).waves(0, 2, 2);
        wave.did("tie", 0, 1, 1).did("tie", 1, 2, 1).did("tie", 0, 2, 1).did("gives", 0);
        wave.due(2, "plan", 3).waves(1, 2, 2);
    }

    // ---- promises 21 to 23

    private static void wavesAndCuts() {
        Run r = offices("wave, cut: NONE", 1, 1, 1);
        r.did("give", 0, 2).did("give", 1, 4).did("stay", 2, 1).did("tie", 0, 1, 7);
        r.asked(2, "wave", 0).none("wave", 2).none("wave", 3).none("wave", -1).none("wave", GREATEST);
        r.none("wave", LEAST).none("cut", 5).none("cut", -1).none("cut", GREATEST).none("cut", LEAST);
        r.asked(0, "cut", 0).asked(0, "cut", 1).asked(7, "cut", 2).asked(7, "cut", 3).asked(0, "cut", 4);
        Run stays = offices("cut: What STAYS is never OVER, nor what has no WAVE", 1, 1, 1);
        stays.did("give", 0, 1).did("stay", 1, 1).did("tie", 0, 1, 5).did("tie", 1, 2, 20).did("tie", 0, 2, 1);
        stays.due(0, "cut", 0).due(6, "cut", 1).due(6, "cut", 4).due(24, "cost");
        stays.did("stay", 1, 0).due(24, "cost").did("give", 1, 0).due(25, "cut", 0).due(21, "cut", 1);
    }

    private static void costs() {
        Run r = new Run("COST: the CUTS of all five WAVES");
        for (int k = 0; k < 10; k++) {
            r.did("office", 1, 0);
            for (int other = 0; other < k; other++) {
                r.did("tie", k, other, 20);
            }
        }
        r.asked(0, "cost");
        for (int k = 0; k < 5; k++) {
            r.did("give", k, 0);
        }
        r.asked(2500, "cost").due(500, "cut", 0).due(500, "cut", 4);
        for (int k = 5; k < 10; k++) {
            r.did("give", k, 4);
        }
        r.due(2000, "cost").due(500, "cut", 3).due(0, "cut", 4);
    }

    // ---- promise 24

    private static Run bothIn(String sentence, int wave) {
        Run r = offices(sentence + " in WAVE " + wave, 20, 20);
        return r.did("give", 0, wave).did("give", 1, wave);
    }

    private static void legalDesks() {
        for (int wave = 0; wave < 5; wave++) {
            Run r = bothIn("DESKS are no more than those of BUILDINGS", wave);
            r.asked(wave, "legal").did("building", 39, 0).asked(wave, "legal").did("building", 1, wave);
            r.asked(5, "legal").did("office", 1, 0).asked(5, "legal").did("give", 2, 4);
            r.asked(4, "legal");
        }
    }

    private static void legalMost() {
        for (int wave = 0; wave < 5; wave++) {
            Run r = bothIn("no more than MOST go", wave).did("building", 100, 0);
            r.did("limit", 0, 40).asked(5, "legal").did("limit", 0, 39).asked(wave, "legal");
            r.did("give", 1, wave == 4 ? 0 : 4).asked(5, "legal").did("limit", 0, 20).asked(5, "legal");
            r.did("limit", 0, 19).asked(wave == 4 ? 0 : wave, "legal");
        }
        Run never = offices("no WAVE: none go", 40, 40).did("limit", 0, 1).asked(5, "legal");
        never.did("stay", 0, 1).asked(5, "legal");
    }

    private static void legalFlats() {
        for (int wave = 0; wave < 5; wave++) {
            Run r = bothIn("HOUSEHOLDS are no more than FLATS", wave).did("building", 100, 0);
            r.did("folk", 0, 0, 1).did("folk", 0, 1, 1).did("folk", 1, 2, 2).asked(wave, "legal");
            r.did("ready", 0, 0, 3).asked(wave, "legal").did("ready", 0, 0, 4).asked(5, "legal");
            r.did("ready", 0, 0, 0).did("ready", wave, 0, 4).asked(5, "legal");
            r.did("ready", wave, 0, 3).asked(wave, "legal");
        }
    }

    private static void legalSeats() {
        for (int wave = 0; wave < 5; wave++) {
            Run r = bothIn("those of KINDS with CHILDREN above 0 no more than SEATS", wave);
            r.did("building", 100, 0).did("ready", 0, 0, 400);
            r.did("folk", 0, 0, 1).did("folk", 0, 1, 1).did("folk", 1, 1, 2).asked(5, "legal");
            r.did("kind", 1, 2, 1).asked(wave, "legal").did("ready", wave, 1, 2).asked(wave, "legal");
            r.did("ready", wave, 1, 3).asked(5, "legal").did("kind", 0, 2, 100).asked(wave, "legal");
            r.did("ready", 0, 1, 4).asked(5, "legal").did("kind", 2, 2, 1).asked(5, "legal");
        }
    }

    private static void legalReadyByThen() {
        for (int wave = 1; wave < 5; wave++) {
            Run r = bothIn("ready by it (in it and all earlier ones together)", wave).did("building", 40, 0);
            r.did("folk", 0, 0, 2).did("kind", 0, 2, 1);
            r.did("ready", wave - 1, 0, 1).did("ready", wave, 0, 1).did("ready", wave, 1, 2).asked(5, "legal");
            r.did("ready", wave, 1, 1).asked(wave, "legal").did("ready", wave - 1, 1, 1).asked(5, "legal");
            r.did("late", 0, wave).asked(5, "legal");
            if (wave < 4) {
                r.did("ready", wave, 0, 0).did("ready", wave + 1, 0, 9).asked(wave, "legal");
                r.did("ready", wave, 0, 1).did("ready", wave - 1, 1, 0).did("ready", wave + 1, 1, 9);
                r.asked(wave, "legal");
                r.did("ready", wave, 1, 2).asked(5, "legal").did("late", 0, wave + 1).asked(wave, "legal");
            }
        }
        Run first = offices("The first WAVE in which the PLAN isn't LEGAL", 1, 1);
        first.did("give", 0, 3).did("give", 1, 1).asked(1, "legal").did("building", 1, 0).asked(3, "legal");
        first.did("building", 1, 4).asked(3, "legal").did("give", 0, 4).asked(5, "legal");
    }
}
