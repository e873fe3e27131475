/** Counts the answers that are not as due, and helps to put rows into shelves. */
final class Due {
    static final int NOBODY = -1;
    static final int OTHER = -2;
    static final int NOTHING = -3;
    static final int BELOW = -4;
    static final int BEYOND = -5;
    static final int WRONG = -6;
    static final int ROOM = -7;

    private static int wrong;
    private static int asked;

    private Due() {
    }

    static void due(String call, long got, long want) {
        asked++;
        if (got != want) {
            wrong++;
            System.out.println(call + " answered " + got + ", due is " + want);
        }
    }

    static void isTrue(String what, boolean is) {
        due(what, is ? 1 : 0, 1);
    }

    static void end() {
        System.out.println(asked + " answers asked, " + wrong + " not as due");
        if (wrong != 0 || asked == 0) {
            System.exit(1);
        }
    }

    /** Shelf s holds a row of a sort with the letters of a text. */
    static void letters(CapitalMoved x, int s, int sort, String text) {
        x.row(s, sort, text.length());
        for (int i = 0; i < text.length(); i++) {
            x.set(s, i, text.charAt(i));
        }
    }

    /** Shelf s holds a row of longs. */
    static void longs(CapitalMoved x, int s, long... values) {
        x.row(s, 3, values.length);
        for (int i = 0; i < values.length; i++) {
            x.set(s, i, values[i]);
        }
    }

    /** Enough of everything for any plan. */
    static void plenty(CapitalMoved x) {
        for (int i = 0; i < 4; i++) {
            x.building(120, 0);
        }
        x.ready(0, 0, 400);
        x.ready(0, 1, 400);
        for (int wave = 1; wave < 3; wave++) {
            x.ready(wave, 0, 400);
            x.ready(wave, 1, 400);
        }
    }

    static void waves(String when, CapitalMoved x, int... want) {
        for (int k = 0; k < want.length; k++) {
            due(when + ": wave(" + k + ")", x.wave(k), want[k]);
        }
    }

    /** The refusals -1 to -7 of an object. */
    static void refusals(String when, CapitalMoved x, int... want) {
        for (int k = 0; k < want.length; k++) {
            due(when + ": status(" + (11 + k) + ")", x.status(11 + k), want[k]);
        }
    }
}
