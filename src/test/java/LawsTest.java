/** Promises 29 to 32: laws, their faults, votes and pay. */
public final class LawsTest {
    private LawsTest() {
    }

    public static void main(String[] args) {
        grammar();
        lettersOfAllSorts();
        refusals();
        votes();
        pays();
        Due.end();
    }

    private static void fault(String text, int want) {
        CapitalMoved x = new CapitalMoved();
        Due.letters(x, 0, 0, text);
        Due.due("law \"" + text + "\"", x.law(0), want == -1 ? 0 : Due.WRONG);
        Due.due("fault of \"" + text + "\"", x.fault(), want);
        Due.due("laws", x.status(4), want == -1 ? 1 : 0);
        Due.due("refusals", x.status(16), want == -1 ? 0 : 1);
    }

    private static void grammar() {
        String[] laws = {"am0f0", "am9f4", "am10f0", "am99f3", "o0m0f0", "o9m50f2", "o5m7f1"};
        for (String law : laws) {
            fault(law, -1);
            for (int n = 0; n < law.length(); n++) {
                fault(law.substring(0, n), n);
                fault(law.substring(0, n) + "x" + law.substring(n + 1), n);
            }
            fault(law + "0", law.length());
            fault(law + law, law.length());
        }
        fault("A", 0);
        fault("m5f0", 0);
        fault("om5f0", 1);
        fault("o10m5f0", 2);
        fault("a5m5f0", 1);
        fault("amf0", 2);
        fault("am-1f0", 2);
        fault("am00f0", 3);
        fault("am05f0", 3);
        fault("am100f0", 4);
        fault("am5f5", 4);
        fault("am5f9", 4);
        fault("am5f", 4);
        fault("am55m", 4);
        fault("am5/", 3);
        fault("am5:", 3);
        fault("o/m5f0", 1);
        fault("o:m5f0", 1);
    }

    private static void lettersOfAllSorts() {
        for (int sort = 0; sort < 4; sort++) {
            CapitalMoved x = new CapitalMoved();
            Due.letters(x, 0, sort, "o3m42f1");
            Due.due("law of sort " + sort, x.law(0), 0);
        }
        CapitalMoved x = new CapitalMoved();
        Due.letters(x, 0, 3, "am42f1");
        x.set(0, 0, 0x700000000L + 'a');
        Due.due("of longs the lowest 32 bits", x.law(0), 0);
        x.set(0, 0, 0x100L + 'a');
        Due.due("but not fewer", x.law(0), Due.WRONG);
        Due.due("fault()", x.fault(), 0);
    }

    private static void refusals() {
        CapitalMoved x = new CapitalMoved();
        x.office(1, 0);
        x.show(1, 0);
        Due.due("fault()", x.fault(), -1);
        Due.letters(x, 0, 0, "amx");
        Due.due("law(0)", x.law(0), Due.WRONG);
        Due.due("fault()", x.fault(), 2);
        Due.due("law(8)", x.law(8), Due.NOBODY);
        Due.due("law(-1)", x.law(-1), Due.NOBODY);
        Due.due("law(1)", x.law(1), Due.OTHER);
        Due.due("law(2)", x.law(2), Due.NOTHING);
        Due.due("none came to a ROW", x.fault(), 2);
        Due.letters(x, 0, 0, "am1f0");
        for (int k = 0; k < 6; k++) {
            Due.due("law " + k, x.law(0), k);
            Due.due("fault()", x.fault(), -1);
        }
        Due.letters(x, 3, 0, "am1f");
        Due.due("FAULT ahead of ROOM", x.law(3), Due.WRONG);
        Due.due("fault()", x.fault(), 4);
        Due.due("the 7th", x.law(0), Due.ROOM);
        Due.due("it was a LAW", x.fault(), -1);
        x.row(4, 0, 0);
        Due.due("an empty ROW", x.law(4), Due.WRONG);
        Due.due("fault()", x.fault(), 0);
        Due.refusals("law", x, 2, 1, 1, 0, 0, 3, 1);
    }

    private static void votes() {
        CapitalMoved x = new CapitalMoved();
        x.office(1, 0);
        Due.due("vote on none", x.vote(0, 1, 0, 1, 0), Due.NOBODY);
        Due.letters(x, 0, 0, "am7f0");
        x.law(0);
        x.law(0);
        Due.due("not IN FORCE at first", x.pay(0, 0), 0);
        Due.due("both halves", x.vote(0, 51, 50, 1, 0), 1);
        Due.due("pay", x.pay(0, 0), 7);
        Due.due("status(5)", x.status(5), 1);
        Due.due("the second has not", x.vote(0, 51, 50, 1, 1), 0);
        Due.due("not any more", x.pay(0, 0), 0);
        Due.due("status(5)", x.status(5), 0);
        Due.due("two times as many", x.vote(0, 50, 25, 0, 9), 1);
        Due.due("not two times", x.vote(0, 49, 25, 0, 9), 0);
        Due.due("the first has not", x.vote(0, 50, 50, 9, 0), 0);
        Due.due("none at all", x.vote(0, 0, 0, 0, 0), 0);
        Due.due("none at all in the first", x.vote(0, 0, 0, 1000, 0), 0);
        Due.due("one alone", x.vote(0, 1, 0, 0, 1000), 1);
        Due.due("greatest", x.vote(1, 1000, 999, 1000, 999), 1);
        Due.due("greatest", x.vote(1, 1000, 501, 1000, 1000), 0);
        Due.due("greatest", x.vote(1, 1000, 500, 0, 1000), 1);
        Due.due("status(5)", x.status(5), 2);
        Due.due("vote(2, ..)", x.vote(2, -1, 0, 0, 0), Due.NOBODY);
        Due.due("vote(-1, ..)", x.vote(-1, 1, 0, 1, 0), Due.NOBODY);
        for (int place = 0; place < 4; place++) {
            for (int n : new int[] {-1, 1001, Integer.MAX_VALUE, Integer.MIN_VALUE}) {
                int[] v = {1, 1, 1, 1};
                v[place] = n;
                Due.due("a wrong number", x.vote(0, v[0], v[1], v[2], v[3]), Due.WRONG);
            }
        }
        Due.due("nothing is changed", x.status(5), 2);
        Due.refusals("vote", x, 3, 0, 0, 0, 0, 16, 0);
    }

    private static void pays() {
        CapitalMoved x = new CapitalMoved();
        x.office(1, 0);
        String[] laws = {"am5f2", "o1m30f0", "o0m7f3", "am6f4", "o9m99f0"};
        for (int k = 0; k < laws.length; k++) {
            Due.letters(x, 0, 0, laws[k]);
            x.law(0);
            x.vote(k, 1, 0, 1, 0);
        }
        Due.due("pay(1, 0)", x.pay(1, 0), -1);
        x.office(1, 0);
        int[] first = {0, 0, 5, 7, 7};
        int[] second = {30, 30, 30, 30, 30};
        for (int wave = 0; wave < 5; wave++) {
            Due.due("pay(0, " + wave + ")", x.pay(0, wave), first[wave]);
            Due.due("pay(1, " + wave + ")", x.pay(1, wave), second[wave]);
        }
        x.vote(2, 0, 0, 0, 0);
        Due.due("the greatest that is left", x.pay(0, 4), 6);
        Due.due("pay(2, 0)", x.pay(2, 0), -1);
        Due.due("pay(-1, 0)", x.pay(-1, 0), -1);
        Due.due("pay(0, 5)", x.pay(0, 5), -1);
        Due.due("pay(0, -1)", x.pay(0, -1), -1);
        Due.refusals("pay", x, 0, 0, 0, 0, 0, 0, 0);
    }
}
