import java.util.ArrayList;
import java.util.List;

/**
 * A run of calls on an object, for one sentence of the document. It is kept, so that it can be done
 * again on a new object: with a call that is refused, and without it.
 */
final class Run {
    private static final int MOST_CALLS = 512;

    private record Call(String name, long[] a) { }

    private final String sentence;
    private final CapitalMoved x = new CapitalMoved();
    private final List<Call> calls = new ArrayList<>();

    Run(String sentence) {
        this.sentence = sentence;
    }

    private long done(String name, long[] a) {
        calls.add(new Call(name, a));
        Due.isTrue(sentence + ": at most 512 calls", calls.size() <= MOST_CALLS);
        return Calls.ask(x, name, a);
    }

    private String text(String name, long[] a) {
        return sentence + ": " + Calls.text(name, a);
    }

    /** A call whose answer is not what is asked about: it is only not refused. */
    Run did(String name, long... a) {
        long got = done(name, a);
        boolean mayAnswerNone = name.equals("give");
        Due.isTrue(text(name, a) + " is not refused", got >= 0 || mayAnswerNone && got == CapitalMoved.NONE);
        return this;
    }

    Run due(long want, String name, long... a) {
        Due.due(text(name, a), done(name, a), want);
        return this;
    }

    /** NONE, which is no refusal: nothing at all changes. */
    Run none(String name, long... a) {
        changesOnly(0, Look.PARTS, name, a);
        return due(CapitalMoved.NONE, name, a);
    }

    /** A question: nothing at all changes. */
    Run asked(long want, String name, long... a) {
        changesOnly(0, Look.PARTS, name, a);
        return due(want, name, a);
    }

    /** A call is refused: nothing changes but how many of its number there were. */
    Run refused(int number, String name, long... a) {
        changesOnly(number, Look.PARTS, name, a);
        return due(number, name, a);
    }

    /** A law() is refused: fault() may change, nothing else. */
    Run refusedLaw(int number, int fault, int s) {
        changesOnly(number, Look.FAULT, "law", s);
        return due(number, "law", s).due(fault, "fault");
    }

    Run waves(long... want) {
        for (int k = 0; k < want.length; k++) {
            due(want[k], "wave", k);
        }
        return this;
    }

    /** Shelf s holds a new row of a sort with these elements. */
    Run row(int s, int sort, long... values) {
        did("row", s, sort, values.length);
        for (int i = 0; i < values.length; i++) {
            did("set", s, i, values[i]);
        }
        return this;
    }

    /** Shelf s holds a new row of ints with the letters of a text. */
    Run letters(int s, String text) {
        return row(s, 2, text.chars().asLongStream().toArray());
    }

    private CapitalMoved again() {
        CapitalMoved other = new CapitalMoved();
        for (Call call : calls) {
            Calls.ask(other, call.name(), call.a());
        }
        return other;
    }

    /** Two new objects, one of them with the call more, show the same in the first parts. */
    private void changesOnly(int number, int parts, String name, long... a) {
        String text = text(name, a);
        for (int part = 0; part < parts; part++) {
            CapitalMoved without = again();
            CapitalMoved with = again();
            Calls.ask(with, name, a);
            for (int k = 1; k <= 7; k++) {
                int more = k == -number ? 1 : 0;
                Due.due(text + ", then status(" + (10 + k) + ")", with.status(10 + k),
                        without.status(10 + k) + more);
            }
            List<Long> got = Look.at(part, with);
            List<Long> want = Look.at(part, without);
            Due.isTrue(text + " changes nothing that part " + part + " shows", got.equals(want));
            Due.isTrue(text + ": at most 512 calls", calls.size() + 8 + got.size() <= MOST_CALLS);
        }
    }
}
