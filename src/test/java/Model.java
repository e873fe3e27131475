import java.util.ArrayList;
import java.util.Arrays;
import java.util.Comparator;
import java.util.HashMap;
import java.util.List;
import java.util.Map;
import java.util.TreeMap;
import java.util.regex.Matcher;
import java.util.regex.Pattern;

/**
 * The document once more, written for plainness alone: each household is an object, each plan is
 * made and looked at whole. What it answers is what the program is due to answer.
 */
final class Model {
    private static final int NONE = -1;

    private static final class Office {
        int desks;
        int rank;
        Integer wave;
        boolean stays;
        boolean moved;
        final int[] folk = new int[3];
        final List<Household> households = new ArrayList<>();
    }

    private static final class Household {
        int kind;
        char state;
    }

    private record Law(Integer office, int pay, int from) { }

    private record Refusal(int number) { }

    private static final class Refused extends RuntimeException {
        private static final long serialVersionUID = 1L;
        private final int number;

        Refused(Refusal refusal) {
            super(null, null, false, false);
            number = refusal.number();
        }
    }

    private final List<Office> offices = new ArrayList<>();
    private final Map<List<Integer>, Integer> ties = new HashMap<>();
    private final List<int[]> buildings = new ArrayList<>();
    private final int[][] becoming = new int[2][5];
    private final int[] limits = {400, 400, 20};
    private final int[][] kinds = new int[3][5];
    private final Object[] shelves = new Object[8];
    private final int[] sorts = new int[8];
    private final List<Law> laws = new ArrayList<>();
    private final List<Boolean> inForce = new ArrayList<>();
    private int latestFault = NONE;
    private final List<Integer> embassies = new ArrayList<>();
    private int palace = 35;
    private final List<Character> files = new ArrayList<>();
    private final int[] refusals = new int[8];
    private boolean begun;
    private int now;
    private int paid;

    /** The names of the calls with how many numbers each takes. */
    static final Map<String, Integer> CALLS = new TreeMap<>();

    static {
        String all = "office 2 tie 3 building 2 late 2 ready 3 limit 2 folk 3 kind 3 row 3 set 3 copy 5"
                + " element 2 show 2 holds 1 desksIn 1 stay 2 give 2 gives 1 plan 1 wave 1 cut 1 cost 0"
                + " legal 0 begin 0 next 0 people 2 town 1 law 1 fault 0 vote 5 pay 2 embassy 1"
                + " palace 1 plot 1 file 1 road 1 days 2 status 1";
        String[] parts = all.split(" ");
        for (int i = 0; i < parts.length; i += 2) {
            CALLS.put(parts[i], Integer.valueOf(parts[i + 1]));
        }
    }

    long call(String name, long... a) {
        int[] n = new int[a.length];
        for (int i = 0; i < a.length; i++) {
            n[i] = (int) a[i];
        }
        try {
            return switch (name) {
                case "office" -> office(n[0], n[1]);
                case "tie" -> tie(n[0], n[1], n[2]);
                case "building" -> building(n[0], n[1]);
                case "late" -> late(n[0], n[1]);
                case "ready" -> ready(n[0], n[1], n[2]);
                case "limit" -> limit(n[0], n[1]);
                case "folk" -> folk(n[0], n[1], n[2]);
                case "kind" -> kind(n[0], n[1], n[2]);
                case "row" -> row(n[0], n[1], n[2]);
                case "set" -> set(n[0], n[1], a[2]);
                case "copy" -> copy(n[0], n[1], n[2], n[3], n[4]);
                case "element" -> element(n[0], n[1]);
                case "show" -> show(n[0], n[1]);
                case "holds" -> holds(n[0]);
                case "desksIn" -> desksIn(n[0]);
                case "stay" -> stay(n[0], n[1] == 1);
                case "give" -> give(n[0], n[1]);
                case "gives" -> gives(n[0]);
                case "plan" -> plan(n[0]);
                case "wave" -> n[0] < 0 || n[0] >= offices.size() || waves()[n[0]] == 9 ? NONE : waves()[n[0]];
                case "cut" -> isWave(n[0]) ? cut(waves(), n[0]) : NONE;
                case "cost" -> cost(waves());
                case "legal" -> legal(waves());
                case "begin" -> begin();
                case "next" -> next();
                case "people" -> people(n[0], n[1]);
                case "town" -> town(n[0]);
                case "law" -> law(n[0]);
                case "fault" -> latestFault;
                case "vote" -> vote(n[0], n[1], n[2], n[3], n[4]);
                case "pay" -> n[0] < 0 || n[0] >= offices.size() || !isWave(n[1]) ? NONE : pay(n[0], n[1]);
                case "embassy" -> embassy(n[0]);
                case "palace" -> palace(n[0]);
                case "plot" -> plot(n[0]);
                case "file" -> file(n[0]);
                case "road" -> road(n[0]);
                case "days" -> days(n[0], n[1]);
                case "status" -> status(n[0]);
                default -> throw new IllegalStateException(name);
            };
        } catch (Refused refused) {
            refusals[-refused.number]++;
            return refused.number;
        }
    }

    private static void refuse(boolean is, int number) {
        if (is) {
            throw new Refused(new Refusal(number));
        }
    }

    private static boolean isWave(int wave) {
        return 0 <= wave && wave <= 4;
    }

    private static void in(int n, int least, int most) {
        refuse(n < least || n > most, -6);
    }

    private void early() {
        refuse(begun, -6);
    }

    private void some(int n, int size) {
        refuse(n < 0 || n >= size, -1);
    }

    private int office(int desks, int rank) {
        in(desks, 1, 40);
        in(rank, 0, 9);
        early();
        refuse(offices.size() == 10, -7);
        Office office = new Office();
        office.desks = desks;
        office.rank = rank;
        offices.add(office);
        return offices.size() - 1;
    }

    private int tie(int a, int b, int n) {
        some(a, offices.size());
        some(b, offices.size());
        refuse(a == b, -6);
        in(n, 0, 20);
        Integer was = ties.put(List.of(Math.min(a, b), Math.max(a, b)), n);
        return was == null ? 0 : was;
    }

    private int building(int desks, int ready) {
        some(ready, 5);
        in(desks, 1, 120);
        early();
        refuse(buildings.size() == 6, -7);
        buildings.add(new int[] {desks, ready});
        return buildings.size() - 1;
    }

    private int late(int building, int ready) {
        some(building, buildings.size());
        some(ready, 5);
        int was = buildings.get(building)[1];
        for (int lived = 0; lived < now; lived++) {
            refuse(was <= lived || ready <= lived, -6);
        }
        buildings.get(building)[1] = ready;
        return was;
    }

    private int ready(int wave, int what, int n) {
        some(wave, 5);
        in(what, 0, 1);
        in(n, 0, 400);
        early();
        int was = becoming[what][wave];
        becoming[what][wave] = n;
        return was;
    }

    private int limit(int what, int n) {
        in(what, 0, 2);
        in(n, what == 0 ? 1 : 0, what == 2 ? 1000 : 400);
        early();
        int was = limits[what];
        limits[what] = n;
        return was;
    }

    private int folk(int office, int kind, int n) {
        some(office, offices.size());
        some(kind, 3);
        in(n, 0, 40);
        early();
        int was = offices.get(office).folk[kind];
        offices.get(office).folk[kind] = n;
        return was;
    }

    private int kind(int kind, int what, int n) {
        some(kind, 3);
        in(what, 0, 4);
        in(n, 0, 100);
        early();
        int was = kinds[kind][what];
        kinds[kind][what] = n;
        return was;
    }

    private int row(int s, int sort, int n) {
        some(s, 8);
        refuse(n < 0, -4);
        in(sort, 0, 3);
        refuse(n > 60, -7);
        shelves[s] = new long[n];
        sorts[s] = sort;
        return 1;
    }

    private long[] wantRow(int s) {
        some(s, 8);
        refuse(shelves[s] instanceof Integer, -2);
        refuse(shelves[s] == null, -3);
        return (long[]) shelves[s];
    }

    private int set(int s, int i, long v) {
        long[] row = wantRow(s);
        refuse(i < 0 || i >= row.length, -5);
        int lost = 64 - (8 << sorts[s]);
        row[i] = v << lost >> lost;
        return 1;
    }

    private int copy(int p, int q, int i, int j, int n) {
        some(p, 8);
        some(q, 8);
        refuse(shelves[p] instanceof Integer || shelves[q] instanceof Integer, -2);
        refuse(shelves[p] != null && shelves[q] != null && sorts[p] != sorts[q], -2);
        refuse(shelves[p] == null || shelves[q] == null, -3);
        refuse(n < 0, -4);
        long[] from = ((long[]) shelves[p]).clone();
        long[] to = (long[]) shelves[q];
        refuse(i < 0 || j < 0 || n > 60 || i > from.length - n || j > to.length - n, -5);
        for (int k = 0; k < n; k++) {
            to[j + k] = from[i + k];
        }
        return 1;
    }

    private long element(int s, int i) {
        boolean is = s >= 0 && s < 8 && shelves[s] instanceof long[] row && i >= 0 && i < row.length;
        return is ? ((long[]) shelves[s])[i] : 0;
    }

    private int show(int s, int office) {
        some(s, 8);
        refuse(office < -1 || office >= offices.size(), -1);
        shelves[s] = office == -1 ? null : office;
        return office == -1 ? 0 : 1;
    }

    private int holds(int s) {
        if (s < 0 || s >= 8 || shelves[s] == null) {
            return NONE;
        }
        return shelves[s] instanceof Integer office ? office : 100 + sorts[s];
    }

    private int desksIn(int s) {
        some(s, 8);
        refuse(shelves[s] instanceof long[], -2);
        refuse(shelves[s] == null, -3);
        return offices.get((Integer) shelves[s]).desks;
    }

    private int stay(int k, boolean is) {
        some(k, offices.size());
        Office office = offices.get(k);
        refuse(office.moved, -6);
        int answer = office.stays == is ? 0 : 1;
        office.stays = is;
        if (is) {
            office.wave = null;
        }
        return answer;
    }

    private int give(int k, int wave) {
        some(k, offices.size());
        refuse(wave < -1 || wave > 4, -1);
        Office office = offices.get(k);
        refuse(office.moved || office.stays || wave >= 0 && wave < now, -6);
        int was = office.wave == null ? NONE : office.wave;
        office.wave = wave == -1 ? null : wave;
        return was;
    }

    private int gives(int s) {
        long[] row = wantRow(s);
        refuse(row.length < offices.size(), -5);
        Integer[] before = new Integer[offices.size()];
        for (int k = 0; k < before.length; k++) {
            before[k] = offices.get(k).wave;
        }
        int answer = 0;
        try {
            for (int k = 0; k < before.length; k++) {
                int has = before[k] == null ? -1 : before[k];
                if (has != (int) row[k]) {
                    give(k, (int) row[k]);
                    answer++;
                }
            }
        } catch (Refused refused) {
            for (int k = 0; k < before.length; k++) {
                offices.get(k).wave = before[k];
            }
            refuse(true, -6);
        }
        return answer;
    }

    // ---- plans: the wave of each office, 9 for none

    private int[] waves() {
        int[] plan = new int[offices.size()];
        for (int k = 0; k < plan.length; k++) {
            plan[k] = offices.get(k).wave == null ? 9 : offices.get(k).wave;
        }
        return plan;
    }

    private int cut(int[] plan, int wave) {
        int total = 0;
        for (Map.Entry<List<Integer>, Integer> tie : ties.entrySet()) {
            boolean one = plan[tie.getKey().get(0)] <= wave;
            boolean other = plan[tie.getKey().get(1)] <= wave;
            total += one == other ? 0 : tie.getValue();
        }
        return total;
    }

    private int cost(int[] plan) {
        int total = 0;
        for (int wave = 0; wave < 5; wave++) {
            total += cut(plan, wave);
        }
        return total;
    }

    private int legal(int[] plan) {
        for (int wave = 0; wave < 5; wave++) {
            int desks = 0;
            int going = 0;
            int homes = 0;
            int pupils = 0;
            for (int k = 0; k < plan.length; k++) {
                Office office = offices.get(k);
                if (plan[k] == wave) {
                    going += office.desks;
                }
                if (plan[k] <= wave) {
                    desks += office.desks;
                    for (int kind = 0; kind < 3; kind++) {
                        homes += office.folk[kind];
                        pupils += kinds[kind][2] > 0 ? office.folk[kind] : 0;
                    }
                }
            }
            for (int[] building : buildings) {
                desks -= building[1] <= wave ? building[0] : 0;
            }
            for (int w = 0; w <= wave; w++) {
                homes -= becoming[0][w];
                pupils -= becoming[1][w];
            }
            if (desks > 0 || going > limits[0] || homes > 0 || pupils > 0) {
                return wave;
            }
        }
        return 5;
    }

    private List<Integer> free() {
        List<Integer> free = new ArrayList<>();
        for (int k = 0; k < offices.size(); k++) {
            if (!offices.get(k).moved && !offices.get(k).stays) {
                free.add(k);
            }
        }
        return free;
    }

    private int plan(int way) {
        in(way, 0, 3);
        refuse(way > 1 && free().size() > 6, -7);
        int[] plan = way < 2 ? byRule() : searched(way == 3);
        refuse(plan == null, -6);
        if (way == 1) {
            plan = bySwaps(plan);
        }
        for (int k : free()) {
            offices.get(k).wave = plan[k];
        }
        return cost(plan);
    }

    private int[] byRule() {
        int[] plan = waves();
        List<Integer> order = free();
        for (int k : order) {
            plan[k] = 9;
        }
        order.sort(Comparator.comparing((Integer k) -> -offices.get(k).rank).thenComparing(k -> k));
        for (int k : order) {
            plan[k] = now;
            while (plan[k] < 5 && legal(plan) < 5) {
                plan[k]++;
            }
            if (plan[k] == 5) {
                return null;
            }
        }
        return plan;
    }

    private int[] bySwaps(int[] from) {
        int[] plan = from;
        while (true) {
            int[] next = null;
            for (int[] other : neighbours(plan)) {
                if (legal(other) == 5 && cost(other) < cost(next == null ? plan : next)) {
                    next = other;
                }
            }
            if (next == null) {
                return plan;
            }
            plan = next;
        }
    }

    private List<int[]> neighbours(int[] plan) {
        List<int[]> all = new ArrayList<>();
        List<Integer> free = free();
        for (int k : free) {
            for (int wave = now; wave < 5; wave++) {
                int[] other = plan.clone();
                other[k] = wave;
                all.add(other);
            }
        }
        for (int a : free) {
            for (int b : free) {
                if (a < b) {
                    int[] other = plan.clone();
                    other[a] = plan[b];
                    other[b] = plan[a];
                    all.add(other);
                }
            }
        }
        return all;
    }

    private int[] searched(boolean mending) {
        List<Integer> free = free();
        int[] plan = waves();
        int[] best = null;
        int[] bestWorth = null;
        int many = 1;
        for (int i = 0; i < free.size(); i++) {
            many *= 5;
        }
        for (int n = 0; n < many; n++) {
            int rest = n;
            boolean past = false;
            int changes = 0;
            for (int i = free.size() - 1; i >= 0; i--) {
                int k = free.get(i);
                plan[k] = rest % 5;
                rest /= 5;
                past |= plan[k] < now;
                changes += offices.get(k).wave == null || offices.get(k).wave != plan[k] ? 1 : 0;
            }
            int[] worth = {mending ? changes : 0, cost(plan)};
            boolean better = bestWorth == null || Arrays.compare(worth, bestWorth) < 0;
            if (!past && better && legal(plan) == 5) {
                best = plan.clone();
                bestWorth = worth;
            }
        }
        return best;
    }

    // ---- waves lived

    private int begin() {
        early();
        begun = true;
        int answer = 0;
        for (Office office : offices) {
            answer += office.wave == null ? 0 : 1;
        }
        return answer;
    }

    private int count(char state) {
        int n = 0;
        for (Office office : offices) {
            n += count(office, state);
        }
        return n;
    }

    private static int count(Office office, char state) {
        int n = 0;
        for (Household one : office.households) {
            n += one.state == state ? 1 : 0;
        }
        return n;
    }

    private int readyBy(int what, int wave) {
        int total = 0;
        for (int w = 0; w <= wave; w++) {
            total += becoming[what][w];
        }
        return total;
    }

    private int freeBy(int what, int wave) {
        int taken = 0;
        for (Office office : offices) {
            for (Household one : office.households) {
                taken += one.state == 'm' && (what == 0 || kinds[one.kind][2] > 0) ? 1 : 0;
            }
        }
        return readyBy(what, wave) - taken;
    }

    private void choose(int k, Household one) {
        one.state = '?';
        int[] kind = kinds[one.kind];
        int pay = pay(k, now);
        boolean seat = kind[2] == 0 || freeBy(1, now) > 0;
        int toMove = freeBy(0, now) > 0 && seat ? Math.max(0, limits[2] + kind[0] + kind[1] - pay) : 99999;
        int toTravel = count('t') < limits[1] ? kind[3] + kind[2] : 99999;
        int toQuit = kind[4];
        int least = Math.min(toMove, Math.min(toTravel, toQuit));
        one.state = toMove == least ? 'm' : toTravel == least ? 't' : 'q';
        paid += one.state == 'm' ? pay : 0;
    }

    private int next() {
        refuse(!begun || now == 5 || legal(waves()) <= now, -6);
        int before = count('m');
        for (int k = 0; k < offices.size(); k++) {
            for (Household one : offices.get(k).households) {
                if (one.state == 't') {
                    choose(k, one);
                }
            }
        }
        for (int k = 0; k < offices.size(); k++) {
            Office office = offices.get(k);
            if (office.wave != null && office.wave == now) {
                office.moved = true;
                for (int kind = 0; kind < 3; kind++) {
                    for (int n = 0; n < office.folk[kind]; n++) {
                        Household one = new Household();
                        one.kind = kind;
                        office.households.add(one);
                        choose(k, one);
                    }
                }
            }
        }
        int movers = count('m') - before;
        limits[2] = limits[2] + movers / 10 - (freeBy(0, now) > 0 ? 1 : 0);
        limits[2] = Math.max(0, Math.min(1000, limits[2]));
        files.replaceAll(place -> place == 'r' ? 'n' : place);
        now++;
        return movers;
    }

    private int people(int k, int what) {
        if (k < 0 || k >= offices.size() || what < 0 || what > 3) {
            return NONE;
        }
        Office office = offices.get(k);
        if (what == 0) {
            return office.moved ? 0 : Arrays.stream(office.folk).sum();
        }
        return count(office, " mtq".charAt(what));
    }

    private int town(int what) {
        return switch (what) {
            case 0 -> limits[2];
            case 1, 2 -> freeBy(what - 1, now - 1);
            case 3 -> limits[1] - count('t');
            case 4 -> paid;
            default -> NONE;
        };
    }

    // ---- laws, plots, files

    private static final Pattern LAW = Pattern.compile("(a|o([0-9]))m(0|[1-9][0-9]?)f([0-4])");

    private int law(int s) {
        long[] row = wantRow(s);
        StringBuilder text = new StringBuilder();
        for (long element : row) {
            int letter = (int) element;
            text.append(letter >= 1 && letter < 127 ? (char) letter : '#');
        }
        Matcher matcher = LAW.matcher(text);
        boolean is = matcher.matches();
        latestFault = is ? NONE : faultOf(text.toString());
        refuse(!is, -6);
        refuse(laws.size() == 6, -7);
        Integer office = matcher.group(2) == null ? null : Integer.valueOf(matcher.group(2));
        laws.add(new Law(office, Integer.parseInt(matcher.group(3)), Integer.parseInt(matcher.group(4))));
        inForce.add(false);
        return laws.size() - 1;
    }

    /** The length of the longest beginning with which some law begins. */
    private static int faultOf(String text) {
        for (int n = 0; n < text.length(); n++) {
            Matcher matcher = LAW.matcher(text.substring(0, n + 1));
            if (!matcher.matches() && !matcher.hitEnd()) {
                return n;
            }
        }
        return text.length();
    }

    private int vote(int law, int ayes, int noes, int ayes2, int noes2) {
        some(law, laws.size());
        in(ayes, 0, 1000);
        in(noes, 0, 1000);
        in(ayes2, 0, 1000);
        in(noes2, 0, 1000);
        boolean first = ayes > noes;
        boolean second = ayes2 > noes2;
        inForce.set(law, first && second || first && ayes >= noes * 2);
        return inForce.get(law) ? 1 : 0;
    }

    private int pay(int office, int wave) {
        int most = 0;
        for (int k = 0; k < laws.size(); k++) {
            Law law = laws.get(k);
            if (inForce.get(k) && (law.office() == null || law.office() == office) && wave >= law.from()) {
                most = Math.max(most, law.pay());
            }
        }
        return most;
    }

    private int embassy(int rank) {
        in(rank, 0, 9);
        refuse(embassies.size() == 10, -7);
        embassies.add(rank);
        return embassies.size() - 1;
    }

    private int palace(int plot) {
        some(plot, 36);
        int was = palace;
        palace = plot;
        return was;
    }

    private int plot(int embassy) {
        if (embassy < 0 || embassy >= embassies.size()) {
            return NONE;
        }
        List<Integer> order = new ArrayList<>();
        for (int k = 0; k < embassies.size(); k++) {
            order.add(k);
        }
        order.sort(Comparator.comparing((Integer k) -> -embassies.get(k)).thenComparing(k -> k));
        List<Integer> plots = new ArrayList<>();
        for (int plot = 0; plot < 36; plot++) {
            if (plot != palace) {
                plots.add(plot);
            }
        }
        plots.sort(Comparator.comparing((Integer plot) ->
                Math.abs(plot / 6 - palace / 6) + Math.abs(plot % 6 - palace % 6)).thenComparing(p -> p));
        return plots.get(order.indexOf(embassy));
    }

    private int file(int office) {
        some(office, offices.size());
        refuse(files.size() == 12, -7);
        files.add(offices.get(office).moved ? 'n' : 'o');
        return files.size() - 1;
    }

    private int road(int file) {
        some(file, files.size());
        refuse(files.get(file) != 'o' || now == 5, -6);
        files.set(file, 'r');
        return 1;
    }

    private int days(int file, int office) {
        if (file < 0 || file >= files.size() || office < 0 || office >= offices.size()) {
            return NONE;
        }
        char place = files.get(file);
        char other = offices.get(office).moved ? 'n' : 'o';
        return place == other ? 0 : place == 'r' ? 4 : 2;
    }

    private int status(int what) {
        if (what >= 11 && what <= 17) {
            return refusals[what - 10];
        }
        return switch (what) {
            case 0 -> offices.size();
            case 1 -> buildings.size();
            case 2 -> (int) offices.stream().filter(office -> office.moved).count();
            case 3 -> (int) offices.stream().filter(office -> office.stays).count();
            case 4 -> laws.size();
            case 5 -> (int) inForce.stream().filter(is -> is).count();
            case 6 -> embassies.size();
            case 7 -> files.size();
            case 8 -> (int) files.stream().filter(place -> place == 'r').count();
            case 9 -> now;
            case 10 -> begun ? 1 : 0;
            case 18 -> offices.stream().mapToInt(office -> Arrays.stream(office.folk).sum()).sum();
            case 19 -> count('m');
            case 20 -> count('t');
            case 21 -> count('q');
            default -> NONE;
        };
    }
}
