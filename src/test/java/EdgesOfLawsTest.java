/** Promises 29 to 32: a test for each sentence of the document that names a boundary. */
public final class EdgesOfLawsTest {
    private static final long LEAST = Integer.MIN_VALUE;
    private static final long GREATEST = Integer.MAX_VALUE;

    private EdgesOfLawsTest() {
    }

    public static void main(String[] args) {
        eachLetterAtEachPlace();
        numbersOfLaws();
        lettersAsInts();
        sixLaws();
        lawsRefused();
        faultsOfTheLatest();
        bothHalls();
        firstHallAlone();
        votesRefused();
        votesChange();
        payByOffices();
        payByWaves();
        payIsTheGreatest();
        payOfNone();
        Due.end();
    }

    // ---- promises 29 and 30

    /** How a law may begin, and which letters may stand next; behind a whole law none. */
    private static final String[][] GOES_ON = {
        {"", "ao"}, {"a", "m"}, {"o", "0123456789"}, {"o0", "m"}, {"o9", "m"}, {"am", "0123456789"},
        {"am0", "f"}, {"am1", "0123456789f"}, {"am9", "0123456789f"}, {"am10", "f"}, {"am99", "f"},
        {"o5m7f", "01234"}, {"am0f", "01234"}, {"am99f", "01234"}, {"am0f0", ""}, {"o9m99f4", ""}};

    private static void eachLetterAtEachPlace() {
        for (String[] pair : GOES_ON) {
            for (int letter = -3; letter < 300; letter++) {
                CapitalMoved x = new CapitalMoved();
                String begin = pair[0];
                x.row(0, 2, begin.length() + 1);
                for (int i = 0; i < begin.length(); i++) {
                    x.set(0, i, begin.charAt(i));
                }
                x.set(0, begin.length(), letter);
                boolean goesOn = letter >= 0 && pair[1].indexOf(letter) >= 0;
                boolean whole = goesOn && begin.endsWith("f");
                int fault = !goesOn ? begin.length() : begin.length() + 1;
                String what = "law \"" + begin + "\" and " + letter;
                Due.due(what, x.law(0), whole ? 0 : -6);
                Due.due(what + ": fault()", x.fault(), whole ? -1 : fault);
            }
            Run r = new Run("the number of elements, if it ends too early");
            boolean whole = pair[1].isEmpty();
            r.letters(0, pair[0]).due(whole ? 0 : -6, "law", 0).due(whole ? -1 : pair[0].length(), "fault");
        }
    }

    private static void numbersOfLaws() {
        for (int number = 0; number <= 99; number++) {
            Run r = new Run("m and a number 0 to 99").did("office", 1, 0);
            r.letters(0, "am" + number + "f0").due(0, "law", 0).due(1, "vote", 0, 1, 0, 1, 0);
            r.due(number, "pay", 0, 0);
        }
        Run r = new Run("no 0 ahead of another digit, none above 99");
        r.letters(0, "am00f0").refusedLaw(-6, 3, 0).letters(0, "am01f0").refusedLaw(-6, 3, 0);
        r.letters(0, "am100f0").refusedLaw(-6, 4, 0).letters(0, "am990").refusedLaw(-6, 4, 0);
        Run wave = new Run("f and a digit 0 to 4");
        wave.letters(0, "am1f5").refusedLaw(-6, 4, 0).letters(0, "am1f4").due(0, "law", 0);
        wave.letters(0, "am1f00").refusedLaw(-6, 5, 0);
        Run office = new Run("o and a digit 0 to 9");
        office.letters(0, "o10m1f0").refusedLaw(-6, 2, 0).letters(0, "om1f0").refusedLaw(-6, 1, 0);
        office.letters(0, "o9m1f0").due(0, "law", 0);
        Run empty = new Run("an empty ROW ends too early");
        empty.row(0, 0).refusedLaw(-6, 0, 0);
        Run full = new Run("a ROW of 60 elements").letters(0, "am5f0").did("row", 1, 2, 60);
        full.did("copy", 0, 1, 0, 0, 5).refusedLaw(-6, 5, 1);
    }

    private static void lettersAsInts() {
        for (int sort = 0; sort < 4; sort++) {
            Run r = new Run("elements as ints: SORT " + sort).row(0, sort, 'o', '7', 'm', '4', '2', 'f', '3');
            r.due(0, "law", 0).due(-1, "fault");
        }
        Run longs = new Run("of longs the lowest 32 bits");
        longs.row(0, 3, (1L << 32) + 'a', (-1L << 32) + 'm', '1', 'f', (1L << 63) + '0').due(0, "law", 0);
        longs.row(0, 3, (1L << 31) + 'a', 'm', '1', 'f', '0').refusedLaw(-6, 0, 0);
        longs.row(0, 3, 'a', 'm', '1', (1L << 16) + 'f', '0').refusedLaw(-6, 3, 0);
        Run ints = new Run("elements as ints: no fewer bits").row(0, 2, 'a', 256 + 'm', '1', 'f', '0');
        ints.refusedLaw(-6, 1, 0).row(0, 1, 'a', 'm', '1', 'f', 256 + '0').refusedLaw(-6, 4, 0);
        Run bytes = new Run("bytes that kept their lowest bits").row(0, 0, 256 + 'a', 'm', '1', 'f', '0');
        bytes.due(0, "law", 0).row(0, 0, 128 + 'a', 'm', '1', 'f', '0').refusedLaw(-6, 0, 0);
    }

    private static void sixLaws() {
        Run r = new Run("LAWS have numbers, from 0 on, 6 at most").did("office", 1, 0).letters(0, "am1f0");
        for (int k = 0; k < 6; k++) {
            r.due(k, "law", 0).due(-1, "fault");
        }
        r.refused(-7, "law", 0).due(6, "status", 4).due(-1, "fault");
        Run first = new Run("law: -6 ahead of -7").letters(0, "am1f0").letters(1, "am1");
        for (int k = 0; k < 6; k++) {
            first.did("law", 0);
        }
        first.refusedLaw(-6, 3, 1).refusedLaw(-7, -1, 0).row(2, 2).refusedLaw(-6, 0, 2);
    }

    private static void lawsRefused() {
        Run r = new Run("law: -1; -2; -3").did("office", 1, 0).did("show", 1, 0);
        r.refused(-1, "law", 8).refused(-1, "law", -1).refused(-1, "law", GREATEST).refused(-1, "law", LEAST);
        r.refused(-2, "law", 1).refused(-3, "law", 2).due(-1, "fault").due(0, "status", 4);
        Run copied = new Run("a LAW stands when its ROW has changed").did("office", 1, 0).letters(0, "am7f0");
        copied.due(0, "law", 0).did("set", 0, 2, 'x').did("show", 0, 0).due(1, "vote", 0, 1, 0, 1, 0);
        copied.due(7, "pay", 0, 0);
    }

    private static void faultsOfTheLatest() {
        Run r = new Run("fault: the latest law() that came to a ROW; NONE: it was a LAW, or none yet");
        r.did("office", 1, 0).did("show", 1, 0).none("fault").letters(0, "amx").letters(3, "am1f0");
        r.refused(-3, "law", 2).none("fault").refusedLaw(-6, 2, 0);
        r.refused(-1, "law", 8).refused(-2, "law", 1).refused(-3, "law", 2).asked(2, "fault");
        r.due(0, "law", 3).none("fault").refusedLaw(-6, 2, 0).letters(0, "b").asked(2, "fault");
        r.refusedLaw(-6, 0, 0).asked(0, "fault").did("vote", 0, 1, 0, 1, 0).asked(0, "fault");
    }

    // ---- promise 31

    private static Run oneLaw(String sentence) {
        return new Run(sentence).did("office", 1, 0).letters(0, "am9f0").due(0, "law", 0);
    }

    private static void bothHalls() {
        int[][] votes = {{3, 2, 1, 0, 1}, {3, 2, 1000, 999, 1}, {3, 2, 1, 1, 0}, {3, 2, 0, 1, 0}, {3, 2, 0, 0, 0},
            {2, 2, 1, 0, 0}, {0, 0, 1, 0, 0}, {0, 0, 0, 0, 0}, {1, 2, 9, 0, 0}, {1000, 999, 1, 0, 1},
            {999, 1000, 1, 0, 0}, {1000, 1000, 1000, 0, 0}, {1000, 999, 1000, 1000, 0}};
        for (int[] v : votes) {
            Run r = oneLaw("IN FORCE if both halls have more ayes than noes");
            r.due(v[4], "vote", 0, v[0], v[1], v[2], v[3]).due(v[4], "status", 5).due(9 * v[4], "pay", 0, 0);
        }
    }

    private static void firstHallAlone() {
        int[][] votes = {{2, 1, 1}, {3, 2, 0}, {4, 2, 1}, {3, 1, 1}, {1, 0, 1}, {0, 0, 0}, {5, 3, 0}, {6, 3, 1},
            {1000, 500, 1}, {999, 500, 0}, {1000, 501, 0}, {1000, 0, 1}, {1, 1, 0}};
        for (int[] v : votes) {
            Run r = oneLaw("or the first has, and two times as many as noes or more");
            r.due(v[2], "vote", 0, v[0], v[1], 0, 1000).due(v[2], "status", 5);
            r.due(v[2], "vote", 0, v[0], v[1], 5, 5).due(0, "vote", 0, v[1], v[0], 0, 0);
        }
        Run second = oneLaw("not the second alone");
        second.due(0, "vote", 0, 500, 500, 1000, 0).due(0, "vote", 0, 0, 1, 1000, 0);
    }

    private static void votesRefused() {
        Run r = oneLaw("vote: -6 a number below 0 or above 1,000").due(1, "vote", 0, 1, 0, 1, 0);
        for (int place = 1; place <= 4; place++) {
            for (long n : new long[] {-1, 1001, LEAST, GREATEST}) {
                long[] v = {0, 1, 1, 1, 1};
                v[place] = n;
                r.refused(-6, "vote", v);
            }
            for (long n : new long[] {0, 1000}) {
                long[] v = {0, 500, 500, 500, 500};
                v[place] = n;
                r.did("vote", v);
            }
        }
        Run nobody = oneLaw("vote: -1").refused(-1, "vote", 1, 1, 0, 1, 0).refused(-1, "vote", -1, 1, 0, 1, 0);
        nobody.refused(-1, "vote", GREATEST, 1, 0, 1, 0).refused(-1, "vote", LEAST, 1, 0, 1, 0);
        nobody.refused(-1, "vote", 6, 1, 0, 1, 0);
        Run first = oneLaw("vote: -1 ahead of -6");
        first.refused(-1, "vote", 1, -1, 0, 0, 0).refused(-1, "vote", -1, 0, 0, 0, 1001);
    }

    private static void votesChange() {
        Run r = oneLaw("By a VOTE; else it isn't (any more)").due(0, "pay", 0, 0).due(0, "status", 5);
        r.due(1, "law", 0).due(1, "vote", 1, 1, 0, 1, 0).due(1, "status", 5).due(1, "vote", 0, 1, 0, 1, 0);
        r.due(2, "status", 5).asked(1, "vote", 0, 9, 3, 0, 0).due(0, "vote", 1, 1, 1, 1, 0).due(1, "status", 5);
        r.asked(0, "vote", 1, 0, 1, 1, 0).due(9, "pay", 0, 0).due(0, "vote", 0, 0, 0, 0, 0).due(0, "pay", 0, 0);
        Run later = oneLaw("a VOTE at any time").did("begin").did("next").due(1, "vote", 0, 1, 0, 1, 0);
        later.due(9, "pay", 0, 0);
    }

    // ---- promise 32

    private static Run pays(String sentence, String... laws) {
        Run r = new Run(sentence);
        for (int k = 0; k < laws.length; k++) {
            r.letters(0, laws[k]).due(k, "law", 0).due(1, "vote", k, 1, 0, 1, 0);
        }
        return r;
    }

    private static void payByOffices() {
        Run r = pays("(OFFICES that come later count in LAWS of their number.)", "o0m1f0", "o9m2f0", "am0f0");
        r.none("pay", 0, 0).none("pay", 9, 0);
        for (int k = 0; k < 10; k++) {
            r.none("pay", k, 0).did("office", 1, 0).due(k == 0 ? 1 : k == 9 ? 2 : 0, "pay", k, 0);
        }
        r.none("pay", 10, 0);
    }

    private static void payByWaves() {
        for (int from = 0; from < 5; from++) {
            Run r = pays("from a WAVE on: " + from, "am5f" + from).did("office", 1, 0);
            for (int wave = 0; wave < 5; wave++) {
                r.due(wave < from ? 0 : 5, "pay", 0, wave);
            }
        }
    }

    private static void payIsTheGreatest() {
        Run r = pays("the greatest number of LAWS IN FORCE that are of it and of that WAVE; 0",
                "am5f0", "am99f4", "o0m7f1", "o1m98f0", "am6f2", "am5f0").did("office", 1, 0);
        int[] want = {5, 7, 7, 7, 99};
        for (int wave = 0; wave < 5; wave++) {
            r.asked(want[wave], "pay", 0, wave);
        }
        r.due(0, "vote", 2, 0, 0, 0, 0).due(5, "pay", 0, 1).due(6, "pay", 0, 2).due(0, "vote", 4, 0, 0, 0, 0);
        r.due(5, "pay", 0, 3).due(0, "vote", 0, 0, 0, 0, 0).due(5, "pay", 0, 3).due(0, "vote", 5, 0, 0, 0, 0);
        r.due(0, "pay", 0, 3).due(99, "pay", 0, 4).due(2, "status", 5);
    }

    private static void payOfNone() {
        Run r = pays("pay: NONE: no such one", "am5f0").did("office", 1, 0);
        r.asked(5, "pay", 0, 0).asked(5, "pay", 0, 4);
        r.none("pay", 1, 0).none("pay", -1, 0).none("pay", 0, 5).none("pay", 0, -1);
        r.none("pay", GREATEST, 0).none("pay", LEAST, 0).none("pay", 0, GREATEST).none("pay", 0, LEAST);
    }
}
