import java.util.ArrayList;
import java.util.List;

/**
 * Runs of calls drawn by a fixed row of numbers, each of at most 512 calls: the program answers as
 * the model does.
 */
public final class ModelTest {
    private static final int RUNS = 3000;
    private static final int MOST_CALLS = 512;
    // What one thing that is drawn, or the look at all of it behind the run, asks at most.
    private static final int ONE_THING = 40;
    private static final int LOOK_AROUND = 240;
    private static final long[] WILD = {Integer.MIN_VALUE, Integer.MAX_VALUE, -2, -1, 0, 1, 2, 5, 9, 10, 20, 21,
        36, 40, 41, 60, 61, 100, 101, 120, 121, 400, 401, 1000, 1001, 1L << 32, -1L << 40, Long.MIN_VALUE, Long.MAX_VALUE};

    private final List<String> names = new ArrayList<>(Model.CALLS.keySet());
    private final List<String> done = new ArrayList<>();
    private long seed;
    private CapitalMoved program;
    private Model model;
    private boolean same;

    private ModelTest() {
    }

    public static void main(String[] args) {
        ModelTest test = new ModelTest();
        int bad = 0;
        for (int run = 0; run < RUNS && bad < 5; run++) {
            bad += test.run(run) ? 0 : 1;
        }
        Due.due("runs that went otherwise", bad, 0);
        Due.end();
    }

    private boolean run(int number) {
        seed = 77_777L * number + 13;
        program = new CapitalMoved();
        model = new Model();
        same = true;
        done.clear();
        int style = draw(4);
        boolean looksAround = draw(2) == 0;
        int rest = ONE_THING + (looksAround ? LOOK_AROUND : 0);
        found(style);
        while (same && done.size() + rest <= MOST_CALLS) {
            if (style == 3 && draw(2) == 0) {
                wild();
            } else {
                ordinary();
            }
            glance();
        }
        if (looksAround) {
            lookAround();
        }
        Due.isTrue("at most 512 calls", done.size() <= MOST_CALLS);
        return same;
    }

    private int draw(int n) {
        seed = seed * 6364136223846793005L + 1442695040888963407L;
        return (int) Long.remainderUnsigned(seed >>> 33, n);
    }

    private long call(String name, long... a) {
        if (!same) {
            return 0;
        }
        long want = model.call(name, a);
        long got = Calls.ask(program, name, a);
        done.add(Calls.text(name, a) + " " + got);
        if (got != want) {
            same = false;
            System.out.println(String.join("\n", done) + ", due is " + want + "\n");
        }
        return got;
    }

    /** Offices and all they need: little or much of it by the style of the run. */
    private void found(int style) {
        int offices = style == 0 ? 1 + draw(4) : 3 + draw(8);
        for (int k = 0; k < offices; k++) {
            call("office", 1 + draw(style == 1 ? 40 : 20), draw(10));
        }
        for (int a = 0; a < offices; a++) {
            for (int b = 0; b < a; b++) {
                if (draw(3) != 0) {
                    call("tie", a, b, draw(21));
                }
            }
        }
        for (int k = draw(6); k >= 0; k--) {
            call("building", 1 + draw(120), draw(5));
        }
        int children = draw(3);
        for (int kind = 0; kind < 3; kind++) {
            int scale = 1 + draw(40);
            call("kind", kind, 0, draw(scale));
            call("kind", kind, 1, draw(scale));
            call("kind", kind, 2, children == kind ? 0 : draw(scale));
            call("kind", kind, 3, draw(60));
            call("kind", kind, 4, draw(101));
            for (int k = 0; k < offices; k++) {
                if (draw(3) != 0) {
                    call("folk", k, kind, draw(style == 2 ? 41 : 6));
                }
            }
        }
        for (int wave = 0; wave < 5; wave++) {
            call("ready", wave, 0, draw(style == 2 ? 401 : 60));
            call("ready", wave, 1, draw(style == 2 ? 401 : 60));
        }
        if (draw(2) == 0) {
            call("limit", 0, 10 + draw(90));
        }
        if (draw(2) == 0) {
            call("limit", 1, draw(30));
        }
        if (draw(2) == 0) {
            call("limit", 2, draw(90));
        }
        for (int k = draw(6); k >= 0 && offices > 6; k--) {
            call("stay", draw(offices), 1);
        }
        if (draw(8) == 0) {
            fill();
        }
    }

    /** As many of them as there may be, and one more. */
    private void fill() {
        for (int k = 0; k < 11; k++) {
            call("embassy", draw(10));
        }
        for (int k = 0; k < 13; k++) {
            call("file", draw(3));
        }
    }

    private void ordinary() {
        switch (draw(24)) {
            case 0, 1 -> call("give", draw(10), draw(6) - 1);
            case 2 -> call("stay", draw(10), draw(2));
            case 3, 4 -> call("plan", draw(2));
            case 5 -> call("plan", draw(5) == 0 ? 2 + draw(3) : draw(2));
            case 6 -> call("begin");
            case 7, 8 -> liveOne();
            case 9, 10 -> layDown();
            case 11 -> call("vote", draw(6), draw(20), draw(10), draw(10), draw(10));
            case 12 -> call("late", draw(6), draw(5));
            case 13 -> call("tie", draw(10), draw(10), draw(21));
            case 14 -> call("file", draw(10));
            case 15 -> call("road", draw(12));
            case 16 -> call("embassy", draw(10));
            case 17 -> call("palace", draw(36));
            case 18 -> giveAll();
            case 19 -> call("copy", draw(3), draw(3), draw(8), draw(8), draw(8));
            case 20 -> call("show", draw(8), draw(11) - 1);
            case 21 -> call("desksIn", draw(8));
            case 22 -> call("set", draw(8), draw(20), 40L * draw(100) - 2000);
            default -> call("row", draw(8), draw(4), draw(10));
        }
    }

    private void liveOne() {
        if (call("next") < 0 && call("status", 10) == 1) {
            call("plan", 0);
            call("next");
        }
    }

    private void layDown() {
        StringBuilder text = new StringBuilder();
        text.append(draw(2) == 0 ? "a" : "o" + draw(10)).append('m').append(draw(40)).append('f').append(draw(5));
        if (draw(3) == 0) {
            text.setCharAt(draw(text.length()), "aomf0123456789x".charAt(draw(15)));
        }
        if (draw(6) == 0) {
            text.setLength(draw(text.length()));
        }
        int s = draw(8);
        call("row", s, draw(4), text.length());
        for (int i = 0; i < text.length(); i++) {
            call("set", s, i, text.charAt(i));
        }
        call("law", s);
        call("vote", call("status", 4) - 1, 2, 1, 1, 0);
    }

    private void giveAll() {
        int s = draw(8);
        int offices = (int) call("status", 0);
        long now = call("status", 9);
        call("row", s, draw(4), Math.max(0, offices - 1 + draw(10)));
        for (int k = 0; k < offices; k++) {
            long has = call("wave", k);
            call("set", s, k, draw(3) == 0 || has >= 0 && has < now ? has : draw(6) - 1);
        }
        call("gives", s);
    }

    private void wild() {
        String name = names.get(draw(names.size()));
        long[] a = new long[Model.CALLS.get(name)];
        for (int i = 0; i < a.length; i++) {
            a[i] = draw(3) == 0 ? WILD[draw(WILD.length)] : draw(12) - 1;
        }
        if (name.equals("plan") && a[0] > 1 && a[0] < 4 && draw(8) != 0) {
            a[0] = 0;
        }
        call(name, a);
    }

    /** Three questions about what the last call may have changed. */
    private void glance() {
        for (int n = 0; n < 3; n++) {
            switch (draw(10)) {
                case 0, 1 -> call("status", draw(22));
                case 2 -> call("wave", draw(10));
                case 3 -> call("people", draw(10), draw(4));
                case 4 -> call("town", draw(5));
                case 5 -> call("cut", draw(5));
                case 6 -> call("cost");
                case 7 -> call("legal");
                case 8 -> call("days", draw(6), draw(10));
                default -> call("plot", draw(10));
            }
        }
    }

    private void lookAround() {
        for (int what = -1; what <= 22; what++) {
            call("status", what);
        }
        for (int k = 0; k < 10; k++) {
            call("wave", k);
            call("plot", k);
            for (int what = 0; what < 4; what++) {
                call("people", k, what);
            }
        }
        for (int wave = -1; wave <= 5; wave++) {
            call("cut", wave);
            call("town", wave);
            call("pay", draw(10), wave);
        }
        call("cost");
        call("legal");
        call("fault");
        for (int s = 0; s < 8; s++) {
            call("holds", s);
            for (int i = 0; i < 12; i++) {
                call("element", s, i);
            }
        }
        for (int file = 0; file < 12; file++) {
            call("days", file, draw(10));
        }
    }
}
