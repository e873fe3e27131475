import java.util.ArrayList;
import java.util.List;

/**
 * All that can be seen of an object, in parts: each on an object of its own, as an object answers
 * 512 calls alone, and as most parts change what they look at.
 */
final class Look {
    static final int PARTS = 9;
    /** The part that asks for fault(), which a law() that is refused may change. */
    static final int FAULT = PARTS - 1;

    private final CapitalMoved x;
    private final List<Long> answers = new ArrayList<>();

    private Look(CapitalMoved x) {
        this.x = x;
    }

    static List<Long> at(int part, CapitalMoved x) {
        Look look = new Look(x);
        switch (part) {
            case 0 -> look.questions();
            case 1 -> look.elements(0);
            case 2 -> look.elements(4);
            case 3 -> look.told();
            case 4 -> look.plans();
            case 5 -> look.wavesToCome();
            case 6 -> look.roomLeft();
            case 7 -> look.laws();
            case FAULT -> look.ask("fault");
            default -> throw new IllegalArgumentException("part " + part);
        }
        return look.answers;
    }

    private void ask(String name, long... a) {
        answers.add(Calls.ask(x, name, a));
    }

    private void questions() {
        for (int what = 0; what <= 21; what++) {
            if (what < 11 || what > 17) {
                ask("status", what);
            }
        }
        for (int k = 0; k < 10; k++) {
            ask("wave", k);
            ask("plot", k);
            for (int n = 0; n < 12; n++) {
                ask("days", n, k);
            }
            for (int wave = 0; wave < 5; wave++) {
                ask("pay", k, wave);
            }
        }
        for (int wave = 0; wave < 5; wave++) {
            ask("cut", wave);
        }
        ask("cost");
        ask("legal");
        people();
        for (int s = 0; s < 8; s++) {
            ask("holds", s);
        }
    }

    private void people() {
        for (int k = 0; k < 10; k++) {
            for (int what = 0; what < 4; what++) {
                ask("people", k, what);
            }
        }
        for (int what = 0; what < 5; what++) {
            ask("town", what);
        }
    }

    private void elements(int first) {
        for (int s = first; s < first + 4; s++) {
            for (int i = 0; i < 60; i++) {
                ask("element", s, i);
            }
            ask("set", s, 59, 0);
            ask("set", s, 0, 0x7fffffffffffffffL);
            ask("element", s, 0);
        }
    }

    private void told() {
        for (int a = 0; a < 10; a++) {
            for (int b = 0; b < a; b++) {
                ask("tie", a, b, 0);
            }
            for (int kind = 0; kind < 3; kind++) {
                ask("folk", a, kind, 0);
            }
        }
        for (int kind = 0; kind < 3; kind++) {
            for (int what = 0; what < 5; what++) {
                ask("kind", kind, what, 0);
            }
        }
        for (int wave = 0; wave < 5; wave++) {
            ask("ready", wave, 0, 0);
            ask("ready", wave, 1, 0);
        }
        for (int what = 0; what < 3; what++) {
            ask("limit", what, 1);
        }
        for (int k = 0; k < 6; k++) {
            ask("late", k, 4);
        }
        for (int s = 0; s < 8; s++) {
            ask("desksIn", s);
        }
        ask("palace", 0);
    }

    private void plans() {
        for (int way = 0; way < 4; way++) {
            ask("plan", 3 - way);
            for (int k = 0; k < 10; k++) {
                ask("wave", k);
            }
        }
        for (int k = 0; k < 10; k++) {
            ask("stay", k, 0);
        }
        ask("plan", 0);
        for (int k = 0; k < 10; k++) {
            ask("wave", k);
        }
    }

    private void wavesToCome() {
        ask("begin");
        for (int wave = 0; wave < 5; wave++) {
            ask("next");
            people();
            for (int n = 0; n < 12; n++) {
                ask("days", n, 0);
            }
        }
    }

    /** What is still made, up to the first that is refused. */
    private void roomLeft() {
        for (int n = 0; n < 11; n++) {
            ask("office", 1, 0);
            ask("embassy", 0);
        }
        for (int n = 0; n < 7; n++) {
            ask("building", 1, 4);
        }
        for (int n = 0; n < 13; n++) {
            ask("file", 0);
            ask("road", n);
        }
        for (int k = 0; k < 10; k++) {
            ask("plot", k);
        }
        for (int s = 0; s < 8; s++) {
            ask("law", s);
        }
    }

    private void laws() {
        for (int k = 0; k < 6; k++) {
            ask("vote", k, 0, 0, 0, 0);
        }
        for (int law = 0; law < 6; law++) {
            ask("vote", law, 1, 0, 1, 0);
            for (int k = 0; k < 10; k++) {
                ask("pay", k, 4);
            }
            for (int wave = 0; wave < 5; wave++) {
                ask("pay", 0, wave);
            }
            ask("vote", law, 0, 0, 0, 0);
        }
    }
}
