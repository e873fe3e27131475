/** Promises 33 to 39: a test for each sentence of the document that names a boundary. */
public final class EdgesOfPlotsAndFilesTest {
    private static final long LEAST = Integer.MIN_VALUE;
    private static final long GREATEST = Integer.MAX_VALUE;

    private EdgesOfPlotsAndFilesTest() {
    }

    public static void main(String[] args) {
        embassies();
        embassiesRefused();
        palaces();
        plotsNearest();
        plotsByRank();
        plotsOfNone();
        files();
        filesOfMovedOffices();
        roads();
        roadsAtWrongTimes();
        days();
        counts();
        countsOfNone();
        refusalsAreCounted();
        noneIsNotCounted();
        Due.end();
    }

    // ---- promise 33

    private static void embassies() {
        Run r = new Run("EMBASSIES have numbers, from 0 on, 10 at most");
        for (int k = 0; k < 10; k++) {
            r.due(k, "embassy", k).due(k + 1, "status", 6);
        }
        r.refused(-7, "embassy", 0).refused(-7, "embassy", 9);
        Run begun = new Run("embassy at any time").did("begin").due(0, "embassy", 0).did("next").due(1, "embassy", 9);
        begun.due(34, "plot", 0).due(29, "plot", 1);
    }

    private static void embassiesRefused() {
        Run r = new Run("a RANK 0 to 9").due(0, "embassy", 0).due(1, "embassy", 9);
        r.refused(-6, "embassy", -1).refused(-6, "embassy", 10);
        r.refused(-6, "embassy", LEAST).refused(-6, "embassy", GREATEST);
        Run full = new Run("embassy: -6 ahead of -7");
        for (int k = 0; k < 10; k++) {
            full.did("embassy", 5);
        }
        full.refused(-6, "embassy", 10).refused(-6, "embassy", -1).refused(-7, "embassy", 5);
    }

    // ---- promises 34 and 35

    private static void palaces() {
        Run r = new Run("The PALACE is on a PLOT (35 at first): what it was");
        r.due(35, "palace", 0).due(0, "palace", 35).due(35, "palace", 35).due(35, "palace", 17);
        r.refused(-1, "palace", 36).refused(-1, "palace", -1);
        r.refused(-1, "palace", LEAST).refused(-1, "palace", GREATEST).due(17, "palace", 1);
    }

    private static void plotsNearest() {
        int[][] want = {
            {0, 1, 6, 2, 7, 12, 3, 8, 13, 18, 4}, {5, 4, 11, 3, 10, 17, 2, 9, 16, 23, 1},
            {30, 24, 31, 18, 25, 32, 12, 19, 26, 33, 6}, {35, 29, 34, 23, 28, 33, 17, 22, 27, 32, 11},
            {14, 8, 13, 15, 20, 2, 7, 9, 12, 16, 19}, {6, 0, 7, 12, 1, 8, 13, 18, 2, 9, 14},
            {29, 23, 28, 35, 17, 22, 27, 34, 11, 16, 21}};
        for (int[] plots : want) {
            Run r = new Run("the PLOT nearest to the PALACE, of like ones the lesser number");
            for (int k = 0; k < 10; k++) {
                r.did("embassy", 4);
            }
            r.did("palace", plots[0]);
            for (int k = 0; k < 10; k++) {
                r.due(plots[k + 1], "plot", k);
            }
        }
        for (int palace = 0; palace < 36; palace++) {
            CapitalMoved x = new CapitalMoved();
            x.palace(palace);
            boolean[] taken = new boolean[36];
            taken[palace] = true;
            for (int k = 0; k < 10; k++) {
                x.embassy(0);
                int plot = x.plot(k);
                boolean isFree = plot >= 0 && plot < 36 && !taken[plot];
                Due.isTrue("PALACE on " + palace + ": none has its PLOT, none has " + plot + " twice", isFree);
                taken[Math.floorMod(plot, 36)] = true;
            }
        }
    }

    private static void plotsByRank() {
        int[] nearest = {29, 34, 23, 28, 33, 17, 22, 27, 32, 11};
        Run r = new Run("By RANK, the greatest first");
        for (int rank = 0; rank < 10; rank++) {
            r.did("embassy", rank);
            for (int k = 0; k <= rank; k++) {
                r.due(nearest[rank - k], "plot", k);
            }
        }
        Run like = new Run("of like ones the lesser number");
        like.did("embassy", 3).did("embassy", 9).did("embassy", 3).did("embassy", 9).did("embassy", 0);
        like.due(29, "plot", 1).due(34, "plot", 3).due(23, "plot", 0).due(28, "plot", 2).due(33, "plot", 4);
    }

    private static void plotsOfNone() {
        Run r = new Run("plot: NONE: no such one").none("plot", 0).did("embassy", 0).asked(29, "plot", 0);
        r.none("plot", 1).none("plot", -1).none("plot", GREATEST).none("plot", LEAST);
    }

    // ---- promise 36

    private static Run offices(String sentence, int n) {
        Run r = new Run(sentence).did("building", 10, 0);
        for (int k = 0; k < n; k++) {
            r.did("office", 1, 0);
        }
        return r;
    }

    private static void files() {
        Run r = offices("FILES have numbers, from 0 on, 12 at most", 2);
        for (int k = 0; k < 12; k++) {
            r.due(k, "file", k % 2).due(k + 1, "status", 7);
        }
        r.refused(-7, "file", 0).refused(-1, "file", 2).refused(-1, "file", -1);
        Run nobody = offices("file: -1", 1).refused(-1, "file", 1).refused(-1, "file", -1);
        nobody.refused(-1, "file", GREATEST).refused(-1, "file", LEAST).due(0, "status", 7);
    }

    private static void filesOfMovedOffices() {
        Run r = offices("A new FILE of an OFFICE, where the OFFICE is", 3).did("give", 0, 0).did("stay", 2, 1);
        r.due(0, "file", 0).did("begin").due(1, "file", 0).did("next").due(2, "file", 0).due(3, "file", 1);
        r.due(4, "file", 2).due(2, "days", 0, 0).due(2, "days", 1, 0).due(0, "days", 2, 0).due(2, "days", 2, 1);
        r.due(0, "days", 3, 1).due(0, "days", 3, 2).due(2, "days", 4, 0);
        for (int wave = 1; wave < 5; wave++) {
            r.did("next");
        }
        r.due(5, "file", 0).due(0, "days", 5, 0).due(6, "file", 1).due(0, "days", 6, 1);
    }

    // ---- promise 37

    private static void roads() {
        Run r = offices("road: -1; -6 it isn't there", 1).did("give", 0, 0);
        r.refused(-1, "road", 0).did("file", 0).refused(-1, "road", 1).refused(-1, "road", -1);
        r.refused(-1, "road", GREATEST).refused(-1, "road", LEAST).due(0, "status", 8);
        r.due(1, "road", 0).due(1, "status", 8).refused(-6, "road", 0).did("begin").refused(-6, "road", 0);
        r.did("next").due(0, "status", 8).refused(-6, "road", 0).did("file", 0).refused(-6, "road", 1);
        Run all = offices("all FILES on the ROAD", 1);
        for (int k = 0; k < 12; k++) {
            all.did("file", 0).due(1, "road", k).due(k + 1, "status", 8);
        }
        all.did("begin").did("next").due(0, "status", 8);
    }

    private static void roadsAtWrongTimes() {
        Run r = offices("road: -6 all WAVES were lived", 1).did("file", 0).did("file", 0).did("begin");
        for (int wave = 0; wave < 4; wave++) {
            r.did("next");
        }
        r.due(1, "road", 0).did("next").due(2, "days", 0, 0).refused(-6, "road", 1).due(0, "days", 1, 0);
        r.did("file", 0).refused(-6, "road", 2).refused(-1, "road", 3).refused(-1, "road", -1);
        Run waits = new Run("FILES on the ROAD stay there while no WAVE is lived").did("office", 1, 0).did("file", 0);
        waits.did("give", 0, 0).did("road", 0).did("begin").due(4, "days", 0, 0).refused(-6, "next");
        waits.due(4, "days", 0, 0).did("give", 0, 1).did("next").due(2, "days", 0, 0);
    }

    // ---- promise 38

    private static void days() {
        Run r = offices("DAYS: 0 if both are in one town, 4 if the FILE is on the ROAD, else 2", 2).did("give", 0, 0);
        r.did("file", 0).did("file", 1).did("file", 1).asked(0, "days", 0, 0).asked(0, "days", 0, 1);
        r.did("road", 1).asked(4, "days", 1, 0).asked(4, "days", 1, 1).did("begin").asked(0, "days", 0, 0);
        r.did("next").did("road", 2);
        r.due(2, "days", 0, 0).due(0, "days", 0, 1).due(0, "days", 1, 0).due(2, "days", 1, 1);
        r.due(4, "days", 2, 0).due(4, "days", 2, 1).did("next").due(0, "days", 2, 0).due(2, "days", 2, 1);
        r.none("days", 3, 0).none("days", -1, 0).none("days", 0, 2).none("days", 0, -1);
        r.none("days", GREATEST, 0).none("days", LEAST, 0).none("days", 0, GREATEST).none("days", 0, LEAST);
        offices("days: NONE: no FILE yet", 1).none("days", 0, 0);
    }

    // ---- promise 39

    private static void counts() {
        Run r = new Run("status: how many");
        for (int k = 0; k < 10; k++) {
            r.did("office", 1, 0).due(k + 1, "status", 0);
        }
        for (int k = 0; k < 6; k++) {
            r.did("building", 10, 0).due(k + 1, "status", 1);
        }
        r.letters(0, "am1f0");
        for (int k = 0; k < 6; k++) {
            r.did("law", 0).due(k + 1, "status", 4).due(k, "status", 5).did("vote", k, 1, 0, 1, 0);
        }
        for (int k = 0; k < 9; k++) {
            r.did("give", k, 0);
        }
        r.due(6, "status", 5).did("stay", 9, 1).due(1, "status", 3).due(0, "status", 10).due(9, "begin");
        r.due(1, "status", 10).due(0, "status", 2).did("next").due(9, "status", 2).due(1, "status", 9);
        for (int k = 5; k >= 0; k--) {
            r.did("vote", k, 0, 0, 0, 0).due(k, "status", 5);
        }
        Run households = offices("status: HOUSEHOLDS in all, MOVED, TRAVEL, QUIT", 4);
        households.did("ready", 0, 0, 9).did("ready", 1, 0, 1).did("kind", 0, 4, 100).did("kind", 0, 3, 100);
        households.did("kind", 1, 0, 90).did("kind", 1, 4, 50).did("kind", 2, 3, 100);
        for (int k = 0; k < 3; k++) {
            households.did("folk", k, k, 2 + k).did("give", k, 0);
        }
        households.did("folk", 3, 0, 1).due(10, "status", 18).did("begin").due(2, "next").due(10, "status", 18);
        households.due(2, "status", 19).due(3, "status", 20).due(4, "status", 21);
        households.did("give", 3, 1).due(1, "next").due(3, "status", 19).due(3, "status", 20).due(4, "status", 21);
    }

    private static void countsOfNone() {
        Run r = offices("status: NONE for another what", 1);
        r.none("status", -1).none("status", 22).none("status", GREATEST).none("status", LEAST);
        r.asked(0, "status", 21).asked(1, "status", 0);
    }

    private static void refusalsAreCounted() {
        Run r = offices("11 to 17: REFUSALS -1 to -7", 1).row(0, 0, 1).did("show", 1, 0);
        String[] names = {"palace", "desksIn", "desksIn", "row", "set", "plan", "row"};
        long[][] a = {{36}, {0}, {2}, {0, 0, -1}, {0, 1, 1}, {4}, {0, 0, 61}};
        for (int k = 0; k < 7; k++) {
            for (int n = 0; n <= k; n++) {
                r.due(-1 - k, names[k], a[k]);
            }
            for (int other = 0; other < 7; other++) {
                r.due(other <= k ? other + 1 : 0, "status", 11 + other);
            }
        }
    }

    private static void noneIsNotCounted() {
        Run r = new Run("NONE is no refusal").did("office", 1, 0);
        r.none("wave", 0).none("wave", 1).none("cut", 5).none("people", 1, 0).none("people", 0, 4);
        r.none("town", 5).none("fault").none("pay", 1, 0).none("plot", 0).none("days", 0, 0);
        r.none("status", 22).none("holds", 0).none("holds", 8).none("give", 0, -1);
        for (int k = 11; k <= 17; k++) {
            r.due(0, "status", k);
        }
    }
}
