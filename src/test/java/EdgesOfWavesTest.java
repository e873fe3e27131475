/** Promises 25 to 28: a test for each sentence of the document that names a boundary. */
public final class EdgesOfWavesTest {
    private static final long LEAST = Integer.MIN_VALUE;
    private static final long GREATEST = Integer.MAX_VALUE;
    private static final int HOME = 0;
    private static final int SPOUSE = 1;
    private static final int CHILDREN = 2;
    private static final int FARE = 3;
    private static final int LOSS = 4;

    private EdgesOfWavesTest() {
    }

    public static void main(String[] args) {
        beginsOnce();
        nextAtWrongTimes();
        nextNeedsALegalWave();
        moveAheadOfTravel();
        travelAheadOfQuit();
        moveAheadOfQuit();
        eachCostCounts();
        payIsTakenOff();
        moreThanItCosts();
        seatsForChildren();
        roomOnTheTrain();
        officesByNumbers();
        householdsByKinds();
        travellersFirst();
        travellersKeepTheirRoom();
        travellersOfAllOfficesAndKinds();
        onlyTravellersChooseAnew();
        rentGrows();
        rentFalls();
        rentOfTheWaveBefore();
        people();
        town();
        allOfAll();
        Due.end();
    }

    /** Offices of 1 desk and desks for them; what they lack is told by each test. */
    private static Run offices(String sentence, int n) {
        Run r = new Run(sentence).did("building", 100, 0);
        for (int k = 0; k < n; k++) {
            r.did("office", 1, 0);
        }
        return r;
    }

    /** One office with households of kind 0, for wave 0, and flats and seats for them. */
    private static Run households(String sentence, int n) {
        Run r = offices(sentence, 1).did("folk", 0, 0, n).did("give", 0, 0);
        return r.did("ready", 0, 0, n).did("ready", 0, 1, n);
    }

    private static Run tell(Run r, int kind, int home, int spouse, int children, int fare, int loss) {
        r.did("kind", kind, HOME, home).did("kind", kind, SPOUSE, spouse).did("kind", kind, CHILDREN, children);
        return r.did("kind", kind, FARE, fare).did("kind", kind, LOSS, loss);
    }

    private static Run law(Run r, int number, String text) {
        return r.letters(7, text).due(number, "law", 7).due(1, "vote", number, 1, 0, 1, 0);
    }

    private static Run people(Run r, int office, int old, int moved, int travel, int quit) {
        r.due(old, "people", office, 0).due(moved, "people", office, 1);
        return r.due(travel, "people", office, 2).due(quit, "people", office, 3);
    }

    // ---- promise 25

    private static void beginsOnce() {
        Run r = offices("begin: -6 it was", 2);
        r.did("give", 0, 1).due(0, "status", 10).due(1, "begin").due(1, "status", 10).due(0, "status", 9);
        r.refused(-6, "begin").did("next").refused(-6, "begin");
        for (int wave = 1; wave < 5; wave++) {
            r.did("next");
        }
        r.refused(-6, "begin").due(1, "status", 10);
        Run none = offices("begin: how many OFFICES have a WAVE", 10);
        none.did("stay", 3, 1).due(0, "begin");
        Run all = offices("begin: how many OFFICES have a WAVE", 10);
        for (int k = 0; k < 10; k++) {
            all.did("give", k, k % 5);
        }
        all.due(10, "begin").due(0, "status", 2);
    }

    // ---- promise 26

    private static void nextAtWrongTimes() {
        Run r = offices("next: -6 not behind BEGIN, all were", 1);
        r.refused(-6, "next").did("give", 0, 4).refused(-6, "next").did("begin");
        for (int wave = 0; wave < 5; wave++) {
            r.due(wave, "status", 9).due(0, "status", 2).due(0, "next");
        }
        r.due(5, "status", 9).due(1, "status", 2).refused(-6, "next");
    }

    private static void nextNeedsALegalWave() {
        Run r = new Run("next: -6 the PLAN isn't LEGAL in NOW");
        r.did("office", 1, 0).did("office", 1, 0).did("building", 1, 0).did("give", 0, 0).did("give", 1, 2);
        r.due(2, "begin").asked(2, "legal").due(0, "next").due(0, "next").refused(-6, "next");
        r.did("give", 1, 3).due(0, "next").refused(-6, "next").did("give", 1, -1).due(0, "next").due(0, "next");
        Run first = new Run("next: -6 in WAVE 0");
        first.did("office", 1, 0).did("give", 0, 0).did("begin").refused(-6, "next");
        first.did("give", 0, 1).due(0, "next").refused(-6, "next");
        Run last = new Run("next: -6 in WAVE 4");
        last.did("office", 1, 0).did("give", 0, 4).did("begin").did("next").did("next").did("next").did("next");
        last.refused(-6, "next").did("stay", 0, 1).due(0, "next");
        Run late = offices("next: -6 a BUILDING that is late", 1);
        late.did("give", 0, 0).did("begin").did("late", 0, 1).refused(-6, "next").did("late", 0, 0).due(0, "next");
        late.due(1, "status", 2);
        Run mended = offices("next: as TO MEND", 1).did("give", 0, 0).did("begin").did("late", 0, 1);
        mended.refused(-6, "next").due(0, "plan", 3).waves(1).due(0, "next").due(0, "status", 2);
        mended.due(0, "next").due(1, "status", 2);
    }

    private static void moveAheadOfTravel() {
        Run like = tell(households("of like ones to MOVE ahead of to TRAVEL", 3), 0, 10, 10, 10, 30, 41);
        people(like.did("begin").due(3, "next"), 0, 0, 3, 0, 0);
        Run more = tell(households("to TRAVEL costs less than to MOVE", 3), 0, 10, 10, 10, 29, 41);
        people(more.did("begin").due(0, "next"), 0, 0, 0, 3, 0);
    }

    private static void travelAheadOfQuit() {
        Run like = tell(households("of like ones to TRAVEL ahead of to QUIT", 3), 0, 50, 50, 10, 30, 40);
        people(like.did("begin").due(0, "next"), 0, 0, 0, 3, 0);
        Run more = tell(households("to QUIT costs less than to TRAVEL", 3), 0, 50, 50, 10, 31, 40);
        people(more.did("begin").due(0, "next"), 0, 0, 0, 0, 3);
    }

    private static void moveAheadOfQuit() {
        Run like = tell(households("of like ones to MOVE ahead of to QUIT", 3), 0, 10, 10, 10, 31, 40);
        people(like.did("begin").due(3, "next"), 0, 0, 3, 0, 0);
        Run all = tell(households("of three like ones to MOVE", 3), 0, 10, 10, 10, 30, 40);
        people(all.did("begin").due(3, "next"), 0, 0, 3, 0, 0);
        Run more = tell(households("to QUIT costs less than to MOVE", 3), 0, 10, 11, 10, 31, 40);
        people(more.did("begin").due(0, "next"), 0, 0, 0, 0, 3);
    }

    /** RENT, HOME, SPOUSE, CHILDREN, FARE, LOSS, and how many of three move, travel and quit. */
    private static final int[][] COSTS = {
        {20, 10, 10, 1, 39, 40, 3, 0, 0},
        {21, 10, 10, 1, 39, 40, 0, 3, 0}, {20, 11, 10, 1, 39, 40, 0, 3, 0}, {20, 10, 11, 1, 39, 40, 0, 3, 0},
        {21, 10, 10, 1, 40, 40, 0, 0, 3}, {21, 10, 10, 2, 39, 40, 0, 0, 3}, {21, 10, 10, 1, 39, 39, 0, 0, 3},
        {0, 0, 0, 0, 0, 0, 3, 0, 0}, {1, 0, 0, 0, 0, 0, 0, 3, 0}, {1, 0, 0, 1, 0, 0, 0, 0, 3},
        {0, 100, 0, 0, 100, 100, 3, 0, 0}, {0, 100, 100, 100, 0, 100, 0, 3, 0},
        {0, 100, 100, 100, 100, 100, 0, 0, 3}, {1000, 0, 0, 0, 100, 100, 0, 3, 0}};

    private static void eachCostCounts() {
        for (int[] c : COSTS) {
            Run r = households("One chooses what costs least: RENT " + c[0], 3).did("limit", 2, c[0]);
            tell(r, 0, c[1], c[2], c[3], c[4], c[5]).did("begin").due(c[6], "next");
            people(r, 0, 0, c[6], c[7], c[8]);
        }
    }

    private static void payIsTakenOff() {
        Run r = tell(households("less PAY of the OFFICE in that WAVE", 2), 0, 30, 30, 0, 50, 100);
        law(r, 0, "o0m30f0");
        people(r.did("begin").due(2, "next"), 0, 0, 2, 0, 0).due(60, "town", 4);
        Run less = tell(households("less PAY: one too little", 2), 0, 30, 30, 0, 50, 100);
        law(less, 0, "o0m29f0");
        people(less.did("begin").due(0, "next"), 0, 0, 0, 2, 0).due(0, "town", 4);
        Run other = tell(households("less PAY: of another OFFICE, of a later WAVE", 2), 0, 30, 30, 0, 50, 100);
        law(law(other, 0, "o1m99f0"), 1, "am99f1");
        people(other.did("begin").due(0, "next"), 0, 0, 0, 2, 0).due(2, "next").due(198, "town", 4);
        people(other, 0, 0, 2, 0, 0);
        Run not = tell(households("less PAY: a LAW that isn't IN FORCE", 2), 0, 30, 30, 0, 50, 100);
        law(not, 0, "am99f0").due(0, "vote", 0, 0, 0, 0, 0);
        people(not.did("begin").due(0, "next"), 0, 0, 0, 2, 0).due(1, "vote", 0, 1, 0, 1, 0).due(2, "next");
    }

    private static void moreThanItCosts() {
        Run r = tell(households("(0 at least): PAY is given whole", 2), 0, 0, 0, 0, 0, 0);
        law(r, 0, "am99f0");
        people(r.did("begin").due(2, "next"), 0, 0, 2, 0, 0).due(198, "town", 4);
    }

    private static void seatsForChildren() {
        Run r = offices("with CHILDREN above 0, a SEAT", 1).did("give", 0, 0);
        r.did("folk", 0, 0, 2).did("folk", 0, 1, 3).did("folk", 0, 2, 4).did("ready", 0, 0, 9).did("ready", 0, 1, 8);
        tell(tell(tell(r, 0, 0, 0, 0, 100, 100), 1, 0, 0, 1, 100, 100), 2, 0, 0, 100, 100, 100);
        r.did("begin").due(9, "next").due(0, "town", 1).due(1, "town", 2);
        Run none = offices("CHILDREN 0: no SEAT", 1).did("give", 0, 0).did("folk", 0, 0, 2).did("ready", 0, 0, 2);
        tell(none, 0, 0, 0, 0, 100, 100).did("begin").due(2, "next").due(0, "town", 2);
        Run travel = tell(households("Who TRAVELS or QUITS takes none", 4), 0, 90, 0, 1, 0, 100).did("limit", 1, 3);
        travel.did("kind", 0, LOSS, 50).did("begin").due(0, "next").due(4, "town", 1).due(4, "town", 2);
        people(travel, 0, 0, 0, 3, 1);
    }

    private static void roomOnTheTrain() {
        int[][] rooms = {{0, 0, 4}, {1, 1, 3}, {3, 3, 1}, {4, 4, 0}, {5, 4, 0}, {400, 4, 0}};
        for (int[] room : rooms) {
            Run r = tell(households("if there is room on THE TRAIN: " + room[0], 4), 0, 90, 0, 0, 0, 50);
            r.did("limit", 1, room[0]).did("begin").due(0, "next");
            people(r, 0, 0, 0, room[1], room[2]).due(room[0] - room[1], "town", 3);
        }
        Run moves = tell(households("no room on THE TRAIN: to MOVE", 4), 0, 20, 0, 0, 0, 50).did("limit", 1, 1);
        people(moves.did("begin").due(3, "next"), 0, 0, 3, 1, 0).due(0, "town", 3);
    }

    private static void officesByNumbers() {
        Run r = offices("then OFFICES whose WAVE it is are MOVED, by numbers", 3);
        tell(r, 0, 90, 0, 0, 0, 50).did("limit", 1, 3).did("ready", 0, 0, 100);
        for (int k = 0; k < 3; k++) {
            r.did("folk", k, 0, 2).did("give", k, k == 1 ? 1 : 0);
        }
        r.did("begin").due(0, "next").due(2, "status", 2);
        people(r, 0, 0, 0, 2, 0);
        people(r, 1, 2, 0, 0, 0);
        people(r, 2, 0, 0, 1, 1);
        people(r.due(0, "next"), 1, 0, 0, 0, 2).due(3, "status", 2);
    }

    private static void householdsByKinds() {
        Run r = offices("their HOUSEHOLDS choose, by KINDS, one by one", 1).did("give", 0, 0);
        r.did("folk", 0, 0, 2).did("folk", 0, 1, 2).did("folk", 0, 2, 2).did("ready", 0, 0, 100).did("limit", 1, 3);
        // The first three travel: both of kind 0 and one of kind 1; the other moves, kind 2 quits.
        tell(tell(tell(r, 0, 90, 0, 0, 0, 50), 1, 20, 0, 0, 0, 50), 2, 90, 0, 0, 0, 50);
        people(r.did("begin").due(1, "next"), 0, 0, 1, 3, 2);
    }

    private static void travellersFirst() {
        Run r = offices("first all HOUSEHOLDS that TRAVEL choose anew", 2);
        r.did("give", 0, 1).did("give", 1, 0).did("folk", 0, 1, 1).did("folk", 1, 0, 1).did("ready", 0, 0, 50);
        tell(tell(r, 0, 0, 0, 0, 19, 90), 1, 90, 0, 0, 0, 50).did("limit", 1, 1);
        people(r.did("begin").due(0, "next"), 1, 0, 0, 1, 0).due(0, "town", 3).due(19, "town", 0);
        // RENT is 19 now: the traveller moves, and what it leaves is free for office 0.
        people(r.due(1, "next"), 1, 0, 1, 0, 0);
        people(r, 0, 0, 0, 1, 0).due(0, "town", 3);
    }

    private static void travellersKeepTheirRoom() {
        Run r = offices("Who TRAVELS has room on THE TRAIN until choosing otherwise", 2);
        r.did("give", 0, 1).did("give", 1, 0).did("folk", 0, 0, 2).did("folk", 1, 0, 2).did("ready", 0, 0, 50);
        tell(r, 0, 90, 0, 0, 0, 50).did("limit", 1, 2);
        people(r.did("begin").due(0, "next"), 1, 0, 0, 2, 0).due(0, "town", 3);
        for (int wave = 1; wave < 5; wave++) {
            people(r.due(0, "next"), 1, 0, 0, 2, 0).due(0, "town", 3);
            people(r, 0, 0, 0, 0, 2);
        }
    }

    private static void travellersOfAllOfficesAndKinds() {
        Run r = offices("HOUSEHOLDS that TRAVEL, by OFFICES, of one by KINDS", 3);
        r.did("ready", 0, 0, 18).did("ready", 0, 1, 18);
        for (int k = 0; k < 3; k++) {
            r.did("give", k, 0);
            for (int kind = 0; kind < 3; kind++) {
                r.did("folk", k, kind, 2);
            }
        }
        // In wave 0 all travel; in wave 1, at RENT 19, kind 1 moves, kind 2 at PAY of office 1 alone.
        tell(tell(tell(r, 0, 90, 0, 0, 0, 50), 1, 0, 0, 0, 19, 50), 2, 10, 0, 1, 23, 50);
        law(r, 0, "o1m5f1");
        r.did("begin").due(0, "next").due(382, "town", 3).due(18, "status", 20).due(8, "next");
        people(r, 0, 0, 2, 4, 0);
        people(r, 1, 0, 4, 2, 0);
        people(r, 2, 0, 2, 4, 0);
        r.due(390, "town", 3).due(10, "town", 1).due(16, "town", 2).due(20, "town", 4);
        r.due(8, "status", 19).due(10, "status", 20).due(18, "status", 18);
    }

    private static void onlyTravellersChooseAnew() {
        Run quit = tell(households("who QUIT chooses no more", 2), 0, 90, 0, 0, 100, 0).did("ready", 1, 0, 9);
        law(quit, 0, "am99f1");
        people(quit.did("begin").due(0, "next"), 0, 0, 0, 0, 2);
        people(quit.due(0, "next"), 0, 0, 0, 0, 2).due(0, "town", 4).due(400, "town", 3);
        Run moved = tell(households("who MOVED chooses no more", 40), 0, 0, 0, 0, 20, 100);
        people(moved.did("begin").due(40, "next"), 0, 0, 40, 0, 0).due(24, "town", 0);
        people(moved.due(0, "next"), 0, 0, 40, 0, 0).due(24, "town", 0);
        Run anew = tell(households("who TRAVELS may QUIT", 2), 0, 90, 0, 0, 0, 0);
        people(anew.did("begin").due(0, "next"), 0, 0, 0, 2, 0);
        people(anew.due(0, "next"), 0, 0, 0, 2, 0);
    }

    private static void rentGrows() {
        int[][] grown = {{0, 20}, {1, 20}, {9, 20}, {10, 21}, {19, 21}, {20, 22}, {39, 23}, {40, 24}};
        for (int[] pair : grown) {
            Run full = tell(households("it grows by a tenth, cut: " + pair[0], pair[0]), 0, 0, 0, 0, 100, 100);
            full.did("begin").due(pair[0], "next").due(pair[1], "town", 0).due(0, "town", 1);
            Run free = tell(households("and is 1 less if FLATS are free: " + pair[0], pair[0]), 0, 0, 0, 0, 100, 100);
            free.did("ready", 0, 0, pair[0] + 1).did("begin").due(pair[0], "next");
            free.due(pair[1] - 1, "town", 0).due(1, "town", 1);
        }
        Run together = offices("how many MOVED in the WAVE: of all OFFICES", 3).did("ready", 0, 0, 27);
        tell(together, 0, 0, 0, 0, 100, 100);
        for (int k = 0; k < 3; k++) {
            together.did("folk", k, 0, 9).did("give", k, 0);
        }
        together.did("begin").due(27, "next").due(22, "town", 0);
        Run travellers = offices("how many MOVED in the WAVE: travellers too", 2);
        travellers.did("give", 0, 0).did("folk", 0, 0, 6).did("give", 1, 1).did("folk", 1, 1, 4);
        travellers.did("ready", 0, 0, 6).did("ready", 1, 0, 4);
        tell(tell(travellers, 0, 0, 0, 0, 19, 100), 1, 0, 0, 0, 100, 100);
        travellers.did("begin").due(0, "next").due(19, "town", 0).due(10, "next").due(20, "town", 0);
    }

    private static void rentFalls() {
        Run r = new Run("RENT: 0 at least").did("limit", 2, 2).did("ready", 0, 0, 1).did("begin");
        int[] rents = {1, 0, 0, 0, 0};
        for (int rent : rents) {
            r.due(0, "next").due(rent, "town", 0);
        }
        Run none = new Run("no FLATS ready by it are free").did("ready", 3, 0, 1).did("begin");
        int[] later = {20, 20, 20, 19, 18};
        for (int rent : later) {
            none.due(0, "next").due(rent, "town", 0);
        }
        Run most = new Run("RENT: 1,000 at most").did("limit", 2, 1000).did("begin");
        most.due(0, "next").due(1000, "town", 0).due(0, "next").due(1000, "town", 0);
        Run grows = tell(households("RENT 0 grows, and is 1 less", 10), 0, 0, 0, 0, 100, 100).did("limit", 2, 0);
        grows.did("ready", 0, 0, 11).did("begin").due(10, "next").due(0, "town", 0).due(0, "next").due(0, "town", 0);
    }

    private static void rentOfTheWaveBefore() {
        Run r = tell(households("then RENT", 40), 0, 0, 0, 0, 100, 20).did("office", 1, 0).did("folk", 1, 0, 2);
        r.did("give", 1, 1).did("ready", 1, 0, 2).did("begin").due(40, "next").due(24, "town", 0);
        people(r, 0, 0, 40, 0, 0);
        people(r.due(0, "next"), 1, 0, 0, 0, 2).due(23, "town", 0);
    }

    // ---- promises 27 and 28

    private static void people() {
        Run r = households("people: NONE: no such OFFICE, another what", 7);
        people(r, 0, 7, 0, 0, 0).none("people", 1, 0).none("people", -1, 0).none("people", GREATEST, 0);
        r.none("people", 0, 4).none("people", 0, -1).none("people", LEAST, LEAST).none("people", 0, GREATEST);
        Run stays = tell(offices("in the old town still (not asked yet)", 3), 0, 90, 0, 0, 0, 50);
        stays.did("folk", 0, 0, 3).did("folk", 1, 0, 4).did("give", 2, 0).did("stay", 0, 1).did("begin");
        for (int wave = 0; wave < 5; wave++) {
            stays.due(0, "next");
        }
        people(stays, 0, 3, 0, 0, 0);
        people(stays, 1, 4, 0, 0, 0);
        people(stays, 2, 0, 0, 0, 0).due(7, "status", 18);
    }

    private static void town() {
        Run r = households("town: FLATS ready by the WAVES lived that are free", 5);
        tell(r, 0, 0, 0, 1, 100, 100).did("ready", 0, 0, 8).did("ready", 1, 0, 10).did("ready", 1, 1, 20);
        r.none("town", 5).none("town", -1).none("town", GREATEST).none("town", LEAST);
        r.asked(20, "town", 0).asked(0, "town", 1).asked(0, "town", 2).asked(400, "town", 3).asked(0, "town", 4);
        r.did("begin").due(0, "town", 1).due(5, "next").due(3, "town", 1).due(0, "town", 2);
        r.due(0, "next").due(13, "town", 1).due(20, "town", 2).due(0, "next").due(13, "town", 1);
    }

    private static void allOfAll() {
        Run r = new Run("all that may be of all");
        tell(tell(tell(r, 0, 0, 0, 1, 100, 100), 1, 0, 0, 1, 100, 100), 2, 0, 0, 1, 100, 100);
        for (int k = 0; k < 4; k++) {
            r.did("building", 120, 0);
        }
        for (int wave = 0; wave < 5; wave++) {
            r.did("ready", wave, 0, 400).did("ready", wave, 1, 400);
        }
        for (int k = 0; k < 10; k++) {
            r.did("office", 40, 9).did("give", k, 2);
            for (int kind = 0; kind < 3; kind++) {
                r.did("folk", k, kind, 40);
            }
        }
        law(r, 0, "am99f0").asked(5, "legal").due(10, "begin").did("next").did("next");
        r.due(18, "town", 0).due(800, "town", 1).due(1200, "status", 18);
        r.due(1200, "next").due(0, "town", 1).due(0, "town", 2).due(138, "town", 0).due(118_800, "town", 4);
        r.due(1200, "status", 19).due(10, "status", 2).due(0, "next").due(537 - 400, "town", 0);
    }
}
