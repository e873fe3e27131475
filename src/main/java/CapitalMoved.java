/**
 * Offices, households, laws, plots and files of a capital that moves to a new town in waves.
 *
 * <p>All rows are made with the object and used again: no later call makes an object.
 */
public final class CapitalMoved {
    public static final int NONE = -1;

    private static final int NOBODY = -1;
    private static final int OTHER = -2;
    private static final int NOTHING = -3;
    private static final int BELOW = -4;
    private static final int BEYOND = -5;
    private static final int WRONG = -6;
    private static final int ROOM = -7;

    private static final int WAVES = 5;
    // An office without a wave bears the number behind the last one: so it is never over by any
    // wave, and a tie is cut in as many waves as its two ends' numbers lie apart.
    private static final int NEVER = WAVES;

    private static final int MAX_OFFICES = 10;
    private static final int MAX_DESKS = 40;
    private static final int MAX_RANK = 9;
    private static final int MAX_TIE = 20;
    private static final int MAX_BUILDINGS = 6;
    private static final int MAX_BUILDING_DESKS = 120;
    private static final int MAX_READY = 400;
    private static final int MAX_MOST = 400;
    private static final int MAX_TRAIN = 400;
    private static final int MAX_RENT = 1000;
    private static final int FIRST_RENT = 20;
    private static final int MAX_FOLK = 40;
    private static final int MAX_TRAIT = 100;
    private static final int KINDS = 3;
    private static final int TRAITS = 5;
    private static final int MAX_SEARCHED = 6;
    private static final int SHELVES = 8;
    private static final int SORTS = 4;
    private static final int MAX_ELEMENTS = 60;
    private static final int ROWS_FROM = 100;
    private static final int MAX_LAWS = 6;
    private static final int MAX_VOTES = 1000;
    private static final int MAX_EMBASSIES = 10;
    private static final int PLOTS = 36;
    private static final int SIDE = 6;
    private static final int MAX_FILES = 12;

    private final int[] refusals = new int[8];
    private final Offices offices = new Offices();
    private final Supply supply = new Supply();
    private final Homes homes = new Homes();
    private final Laws laws = new Laws();
    private final Embassies embassies = new Embassies();
    private final Files files = new Files();
    private final Shelves shelves = new Shelves();
    private final Planner planner = new Planner();
    private boolean begun;
    private int now;

    public CapitalMoved() {
    }

    // ---- offices and what is told ahead of BEGIN

    public int office(int desks, int rank) {
        if (!isWithin(desks, 1, MAX_DESKS) || !isWithin(rank, 0, MAX_RANK) || begun) {
            return refuse(WRONG);
        }
        if (offices.count >= MAX_OFFICES) {
            return refuse(ROOM);
        }
        return offices.add(desks, rank);
    }

    public int tie(int a, int b, int n) {
        if (!offices.has(a) || !offices.has(b)) {
            return refuse(NOBODY);
        }
        if (a == b || !isWithin(n, 0, MAX_TIE)) {
            return refuse(WRONG);
        }
        return offices.bind(a, b, n);
    }

    public int building(int desks, int ready) {
        if (!isWave(ready)) {
            return refuse(NOBODY);
        }
        if (!isWithin(desks, 1, MAX_BUILDING_DESKS) || begun) {
            return refuse(WRONG);
        }
        if (supply.buildings >= MAX_BUILDINGS) {
            return refuse(ROOM);
        }
        return supply.add(desks, ready);
    }

    public int late(int building, int ready) {
        if (!isWithin(building, 0, supply.buildings - 1) || !isWave(ready)) {
            return refuse(NOBODY);
        }
        int was = supply.buildingReady[building];
        if (was < now || ready < now) {
            return refuse(WRONG);
        }
        supply.buildingReady[building] = ready;
        return was;
    }

    public int ready(int wave, int what, int n) {
        if (!isWave(wave)) {
            return refuse(NOBODY);
        }
        if (!isWithin(what, Supply.FLATS, Supply.SEATS) || !isWithin(n, 0, MAX_READY) || begun) {
            return refuse(WRONG);
        }
        return supply.makeReady(wave, what, n);
    }

    public int limit(int what, int n) {
        if (!isLimit(what, n) || begun) {
            return refuse(WRONG);
        }
        int was;
        if (what == 0) {
            was = supply.most;
            supply.most = n;
        } else if (what == 1) {
            was = homes.train;
            homes.train = n;
        } else {
            was = homes.rent;
            homes.rent = n;
        }
        return was;
    }

    private static boolean isLimit(int what, int n) {
        switch (what) {
            case 0: return isWithin(n, 1, MAX_MOST);
            case 1: return isWithin(n, 0, MAX_TRAIN);
            case 2: return isWithin(n, 0, MAX_RENT);
            default: return false;
        }
    }

    public int folk(int office, int kind, int n) {
        if (!offices.has(office) || !isWithin(kind, 0, KINDS - 1)) {
            return refuse(NOBODY);
        }
        if (!isWithin(n, 0, MAX_FOLK) || begun) {
            return refuse(WRONG);
        }
        return homes.tellFolk(office, kind, n);
    }

    public int kind(int kind, int what, int n) {
        if (!isWithin(kind, 0, KINDS - 1)) {
            return refuse(NOBODY);
        }
        if (!isWithin(what, 0, TRAITS - 1) || !isWithin(n, 0, MAX_TRAIT) || begun) {
            return refuse(WRONG);
        }
        return homes.tellTrait(kind, what, n);
    }

    // ---- shelves

    public int row(int s, int sort, int n) {
        if (!isShelf(s)) {
            return refuse(NOBODY);
        }
        if (n < 0) {
            return refuse(BELOW);
        }
        if (!isWithin(sort, 0, SORTS - 1)) {
            return refuse(WRONG);
        }
        if (n > MAX_ELEMENTS) {
            return refuse(ROOM);
        }
        shelves.putRow(s, sort, n);
        return 1;
    }

    public int set(int s, int i, long v) {
        int refusal = wantRow(s);
        if (refusal != 0) {
            return refuse(refusal);
        }
        if (!isWithin(i, 0, shelves.length[s] - 1)) {
            return refuse(BEYOND);
        }
        shelves.put(s, i, v);
        return 1;
    }

    public int copy(int p, int q, int i, int j, int n) {
        if (!isShelf(p) || !isShelf(q)) {
            return refuse(NOBODY);
        }
        if (shelves.clash(p, q)) {
            return refuse(OTHER);
        }
        if (shelves.isEmpty(p) || shelves.isEmpty(q)) {
            return refuse(NOTHING);
        }
        if (n < 0) {
            return refuse(BELOW);
        }
        if (!shelves.reaches(p, i, n) || !shelves.reaches(q, j, n)) {
            return refuse(BEYOND);
        }
        System.arraycopy(shelves.elements[p], i, shelves.elements[q], j, n);
        return 1;
    }

    public long element(int s, int i) {
        return isShelf(s) ? shelves.valueAt(s, i) : 0L;
    }

    public int show(int s, int office) {
        if (!isShelf(s) || office != NONE && !offices.has(office)) {
            return refuse(NOBODY);
        }
        shelves.holding[s] = office;
        return office == NONE ? 0 : 1;
    }

    public int holds(int s) {
        return isShelf(s) ? shelves.holding[s] : NONE;
    }

    public int desksIn(int s) {
        if (!isShelf(s)) {
            return refuse(NOBODY);
        }
        if (shelves.isRow(s)) {
            return refuse(OTHER);
        }
        int office = shelves.holding[s];
        return offices.has(office) ? offices.desks[office] : refuse(NOTHING);
    }

    // ---- the plan

    public int stay(int office, boolean is) {
        if (!offices.has(office)) {
            return refuse(NOBODY);
        }
        if (offices.moved[office]) {
            return refuse(WRONG);
        }
        if (offices.stays[office] == is) {
            return 0;
        }
        offices.stays[office] = is;
        offices.waves[office] = NEVER;
        return 1;
    }

    public int give(int office, int wave) {
        if (!offices.has(office) || wave != NONE && !isWave(wave)) {
            return refuse(NOBODY);
        }
        if (!mayGet(office, wave)) {
            return refuse(WRONG);
        }
        int was = offices.waveOf(office);
        offices.assign(office, wave);
        return was;
    }

    public int gives(int s) {
        int refusal = wantRow(s);
        if (refusal != 0) {
            return refuse(refusal);
        }
        if (shelves.length[s] < offices.count) {
            return refuse(BEYOND);
        }
        for (int k = 0; k < offices.count; k++) {
            int wave = (int) shelves.valueAt(s, k);
            if (wave != offices.waveOf(k) && !mayGet(k, wave)) {
                return refuse(WRONG);
            }
        }
        int changed = 0;
        for (int k = 0; k < offices.count; k++) {
            int wave = (int) shelves.valueAt(s, k);
            if (wave != offices.waveOf(k)) {
                offices.assign(k, wave);
                changed++;
            }
        }
        return changed;
    }

    private boolean mayGet(int office, int wave) {
        return offices.isFree(office) && (wave == NONE || isWave(wave) && wave >= now);
    }

    public int plan(int way) {
        if (!isWithin(way, 0, 3)) {
            return refuse(WRONG);
        }
        if (way >= 2 && offices.countFree() > MAX_SEARCHED) {
            return refuse(ROOM);
        }
        planner.start(offices, homes, supply, now);
        if (!planner.make(offices, way)) {
            return refuse(WRONG);
        }
        planner.adopt(offices);
        return offices.costOf(offices.waves);
    }

    public int wave(int office) {
        return offices.has(office) ? offices.waveOf(office) : NONE;
    }

    public int cut(int wave) {
        return isWave(wave) ? offices.cutOf(wave) : NONE;
    }

    public int cost() {
        return offices.costOf(offices.waves);
    }

    public int legal() {
        return planner.firstBreach(offices, homes, supply);
    }

    // ---- waves lived

    public int begin() {
        if (begun) {
            return refuse(WRONG);
        }
        begun = true;
        return offices.countWithWave();
    }

    public int next() {
        if (!begun || now >= WAVES || planner.firstBreach(offices, homes, supply) <= now) {
            return refuse(WRONG);
        }
        homes.open(supply, now);
        int movers = homes.askTravellers(offices, laws, now);
        for (int k = 0; k < offices.count; k++) {
            if (offices.waves[k] == now) {
                offices.moved[k] = true;
                movers += homes.askOffice(k, laws.payOf(k, now));
            }
        }
        homes.changeRent(movers);
        files.arrive();
        now++;
        return movers;
    }

    public int people(int office, int what) {
        if (!offices.has(office)) {
            return NONE;
        }
        switch (what) {
            case 0: return offices.moved[office] ? 0 : homes.folkOf(office);
            case 1: return homes.settled[office];
            case 2: return homes.travellersOf(office);
            case 3: return homes.quitters[office];
            default: return NONE;
        }
    }

    public int town(int what) {
        switch (what) {
            case 0: return homes.rent;
            case 1: return homes.freeFlats;
            case 2: return homes.freeSeats;
            case 3: return homes.train - homes.onTrain;
            case 4: return homes.paid;
            default: return NONE;
        }
    }

    // ---- laws

    public int law(int s) {
        int refusal = wantRow(s);
        if (refusal != 0) {
            return refuse(refusal);
        }
        laws.read(shelves, s);
        if (laws.latestFault != NONE) {
            return refuse(WRONG);
        }
        if (laws.count >= MAX_LAWS) {
            return refuse(ROOM);
        }
        return laws.enact();
    }

    public int fault() {
        return laws.latestFault;
    }

    public int vote(int law, int ayes, int noes, int ayes2, int noes2) {
        if (!isWithin(law, 0, laws.count - 1)) {
            return refuse(NOBODY);
        }
        if (!isVotes(ayes) || !isVotes(noes) || !isVotes(ayes2) || !isVotes(noes2)) {
            return refuse(WRONG);
        }
        boolean passed = ayes > noes && (ayes2 > noes2 || ayes >= 2 * noes);
        laws.inForce[law] = passed;
        return passed ? 1 : 0;
    }

    public int pay(int office, int wave) {
        return offices.has(office) && isWave(wave) ? laws.payOf(office, wave) : NONE;
    }

    // ---- plots

    public int embassy(int rank) {
        if (!isWithin(rank, 0, MAX_RANK)) {
            return refuse(WRONG);
        }
        if (embassies.count >= MAX_EMBASSIES) {
            return refuse(ROOM);
        }
        return embassies.add(rank);
    }

    public int palace(int plot) {
        if (!isWithin(plot, 0, PLOTS - 1)) {
            return refuse(NOBODY);
        }
        int was = embassies.palacePlot;
        embassies.palacePlot = plot;
        return was;
    }

    public int plot(int embassy) {
        return isWithin(embassy, 0, embassies.count - 1) ? embassies.plotOf(embassy) : NONE;
    }

    // ---- files

    public int file(int office) {
        if (!offices.has(office)) {
            return refuse(NOBODY);
        }
        if (files.count >= MAX_FILES) {
            return refuse(ROOM);
        }
        return files.add(offices.moved[office] ? Files.NEW_TOWN : Files.OLD_TOWN);
    }

    public int road(int file) {
        if (!isWithin(file, 0, files.count - 1)) {
            return refuse(NOBODY);
        }
        if (files.place[file] != Files.OLD_TOWN || now >= WAVES) {
            return refuse(WRONG);
        }
        files.place[file] = Files.ROAD;
        return 1;
    }

    public int days(int file, int office) {
        if (!isWithin(file, 0, files.count - 1) || !offices.has(office)) {
            return NONE;
        }
        int place = files.place[file];
        if (place == Files.ROAD) {
            return 4;
        }
        return (place == Files.NEW_TOWN) == offices.moved[office] ? 0 : 2;
    }

    // ---- counts

    public int status(int what) {
        switch (what) {
            case 0: return offices.count;
            case 1: return supply.buildings;
            case 2: return countTrue(offices.moved);
            case 3: return countTrue(offices.stays);
            case 4: return laws.count;
            case 5: return countTrue(laws.inForce);
            case 6: return embassies.count;
            case 7: return files.count;
            case 8: return files.countOnRoad();
            case 9: return now;
            case 10: return begun ? 1 : 0;
            case 18: return sum(homes.folk);
            case 19: return sum(homes.settled);
            case 20: return homes.onTrain;
            case 21: return sum(homes.quitters);
            default: return isWithin(what, 11, 17) ? refusals[what - 10] : NONE;
        }
    }

    // ---- helpers

    private int refuse(int number) {
        if (isWithin(number, ROOM, NOBODY)) {
            refusals[-number]++;
        }
        return number;
    }

    /** The refusal of a shelf that must hold a row; 0: it holds one. */
    private int wantRow(int s) {
        if (!isShelf(s)) {
            return NOBODY;
        }
        if (shelves.isRow(s)) {
            return 0;
        }
        return shelves.isEmpty(s) ? NOTHING : OTHER;
    }

    private static boolean isWithin(int n, int least, int most) {
        return n >= least && n <= most;
    }

    private static boolean isWave(int wave) {
        return wave >= 0 && wave < WAVES;
    }

    private static boolean isShelf(int s) {
        return isWithin(s, 0, SHELVES - 1);
    }

    private static boolean isVotes(int votes) {
        return isWithin(votes, 0, MAX_VOTES);
    }

    private static int countTrue(boolean[] marks) {
        int n = 0;
        for (int i = 0; i < marks.length; i++) {
            if (marks[i]) {
                n++;
            }
        }
        return n;
    }

    private static int sum(int[] numbers) {
        int total = 0;
        for (int i = 0; i < numbers.length; i++) {
            total += numbers[i];
        }
        return total;
    }

    /** The offices, their ties, and the plan: a wave for each, or NEVER. */
    private static final class Offices {
        int count;
        final int[] desks = new int[MAX_OFFICES];
        final int[] ranks = new int[MAX_OFFICES];
        final int[] waves = new int[MAX_OFFICES];
        final boolean[] stays = new boolean[MAX_OFFICES];
        final boolean[] moved = new boolean[MAX_OFFICES];
        final int[] ties = new int[MAX_OFFICES * MAX_OFFICES];

        boolean has(int office) {
            return isWithin(office, 0, count - 1);
        }

        int add(int desksOfIt, int rank) {
            desks[count] = desksOfIt;
            ranks[count] = rank;
            waves[count] = NEVER;
            return count++;
        }

        int bind(int a, int b, int n) {
            int was = ties[a * MAX_OFFICES + b];
            ties[a * MAX_OFFICES + b] = n;
            ties[b * MAX_OFFICES + a] = n;
            return was;
        }

        int waveOf(int office) {
            return waves[office] == NEVER ? NONE : waves[office];
        }

        void assign(int office, int wave) {
            waves[office] = wave == NONE ? NEVER : wave;
        }

        boolean isFree(int office) {
            return !moved[office] && !stays[office];
        }

        int countFree() {
            int n = 0;
            for (int k = 0; k < count; k++) {
                if (isFree(k)) {
                    n++;
                }
            }
            return n;
        }

        int countWithWave() {
            int n = 0;
            for (int k = 0; k < count; k++) {
                if (waves[k] != NEVER) {
                    n++;
                }
            }
            return n;
        }

        int cutOf(int wave) {
            int total = 0;
            for (int a = 0; a < count; a++) {
                for (int b = 0; b < a; b++) {
                    if (waves[a] <= wave != waves[b] <= wave) {
                        total += ties[a * MAX_OFFICES + b];
                    }
                }
            }
            return total;
        }

        int costOf(int[] planned) {
            int total = 0;
            for (int a = 0; a < count; a++) {
                for (int b = 0; b < a; b++) {
                    total += ties[a * MAX_OFFICES + b] * Math.abs(planned[a] - planned[b]);
                }
            }
            return total;
        }
    }

    /** Desks, flats and seats as they become ready, and how many desks may go in one wave. */
    private static final class Supply {
        static final int FLATS = 0;
        static final int SEATS = 1;

        int buildings;
        int most = MAX_MOST;
        final int[] buildingDesks = new int[MAX_BUILDINGS];
        final int[] buildingReady = new int[MAX_BUILDINGS];
        final int[] becoming = new int[2 * WAVES];

        int add(int desks, int ready) {
            buildingDesks[buildings] = desks;
            buildingReady[buildings] = ready;
            return buildings++;
        }

        int makeReady(int wave, int what, int n) {
            int was = becoming[what * WAVES + wave];
            becoming[what * WAVES + wave] = n;
            return was;
        }

        int readyIn(int wave, int what) {
            return becoming[what * WAVES + wave];
        }

        int desksBy(int wave) {
            int total = 0;
            for (int b = 0; b < buildings; b++) {
                if (buildingReady[b] <= wave) {
                    total += buildingDesks[b];
                }
            }
            return total;
        }
    }

    /** The households: who there are, where they are, and what they choose. */
    private static final class Homes {
        static final int HOME = 0;
        static final int SPOUSE = 1;
        static final int CHILDREN = 2;
        static final int FARE = 3;
        static final int LOSS = 4;

        final int[] folk = new int[MAX_OFFICES * KINDS];
        final int[] traits = new int[KINDS * TRAITS];
        final int[] travellers = new int[MAX_OFFICES * KINDS];
        final int[] settled = new int[MAX_OFFICES];
        final int[] quitters = new int[MAX_OFFICES];
        int train = MAX_TRAIN;
        int rent = FIRST_RENT;
        int onTrain;
        int freeFlats;
        int freeSeats;
        int paid;

        int tellFolk(int office, int kind, int n) {
            int was = folk[office * KINDS + kind];
            folk[office * KINDS + kind] = n;
            return was;
        }

        int tellTrait(int kind, int what, int n) {
            int was = traits[kind * TRAITS + what];
            traits[kind * TRAITS + what] = n;
            return was;
        }

        int folkOf(int office) {
            int total = 0;
            for (int kind = 0; kind < KINDS; kind++) {
                total += folk[office * KINDS + kind];
            }
            return total;
        }

        int pupilsOf(int office) {
            int total = 0;
            for (int kind = 0; kind < KINDS; kind++) {
                if (hasChildren(kind)) {
                    total += folk[office * KINDS + kind];
                }
            }
            return total;
        }

        int travellersOf(int office) {
            int total = 0;
            for (int kind = 0; kind < KINDS; kind++) {
                total += travellers[office * KINDS + kind];
            }
            return total;
        }

        void open(Supply supply, int wave) {
            freeFlats += supply.readyIn(wave, Supply.FLATS);
            freeSeats += supply.readyIn(wave, Supply.SEATS);
        }

        int askTravellers(Offices offices, Laws laws, int wave) {
            int movers = 0;
            for (int office = 0; office < offices.count; office++) {
                int pay = laws.payOf(office, wave);
                for (int kind = 0; kind < KINDS; kind++) {
                    int asked = travellers[office * KINDS + kind];
                    for (int n = 0; n < asked; n++) {
                        // Gives up the room first: so one who travels on finds it free again.
                        travellers[office * KINDS + kind]--;
                        onTrain--;
                        movers += ask(office, kind, pay);
                    }
                }
            }
            return movers;
        }

        int askOffice(int office, int pay) {
            int movers = 0;
            for (int kind = 0; kind < KINDS; kind++) {
                int asked = folk[office * KINDS + kind];
                for (int n = 0; n < asked; n++) {
                    movers += ask(office, kind, pay);
                }
            }
            return movers;
        }

        void changeRent(int movers) {
            int grown = rent + movers / 10;
            if (freeFlats > 0) {
                grown--;
            }
            rent = Math.max(0, Math.min(MAX_RENT, grown));
        }

        /** One household chooses: 1 if it moves, else 0. */
        private int ask(int office, int kind, int pay) {
            int toMove = Math.max(0, rent + trait(kind, HOME) + trait(kind, SPOUSE) - pay);
            int toTravel = trait(kind, FARE) + trait(kind, CHILDREN);
            int toQuit = trait(kind, LOSS);
            boolean mayTravel = onTrain < train;
            if (mayMove(kind) && toMove <= toQuit && (!mayTravel || toMove <= toTravel)) {
                settle(office, kind, pay);
                return 1;
            }
            if (mayTravel && toTravel <= toQuit) {
                travellers[office * KINDS + kind]++;
                onTrain++;
            } else {
                quitters[office]++;
            }
            return 0;
        }

        private void settle(int office, int kind, int pay) {
            settled[office]++;
            freeFlats--;
            if (hasChildren(kind)) {
                freeSeats--;
            }
            paid += pay;
        }

        private boolean mayMove(int kind) {
            return freeFlats > 0 && (!hasChildren(kind) || freeSeats > 0);
        }

        private boolean hasChildren(int kind) {
            return trait(kind, CHILDREN) > 0;
        }

        private int trait(int kind, int what) {
            return traits[kind * TRAITS + what];
        }
    }

    /** The laws, and the one that is read just now. */
    private static final class Laws {
        // Where a reader stands: what may come next, or that the law is whole.
        private static final int START = 0;
        private static final int WHOSE = 1;
        private static final int MONEY = 2;
        private static final int NUMBER = 3;
        private static final int SECOND_DIGIT = 4;
        private static final int FROM = 5;
        private static final int WAVE = 6;
        private static final int WHOLE = 7;

        int count;
        final int[] owners = new int[MAX_LAWS];
        final int[] numbers = new int[MAX_LAWS];
        final int[] firstWaves = new int[MAX_LAWS];
        final boolean[] inForce = new boolean[MAX_LAWS];
        int latestFault = NONE;
        private int owner;
        private int number;
        private int firstWave;

        void read(Shelves shelves, int s) {
            owner = NONE;
            latestFault = NONE;
            int state = START;
            int size = shelves.length[s];
            for (int i = 0; i < size; i++) {
                state = step(state, (int) shelves.valueAt(s, i));
                if (state == NONE) {
                    latestFault = i;
                    return;
                }
            }
            if (state != WHOLE) {
                latestFault = size;
            }
        }

        /** The law read last gets a number. */
        int enact() {
            owners[count] = owner;
            numbers[count] = number;
            firstWaves[count] = firstWave;
            return count++;
        }

        int payOf(int office, int wave) {
            int most = 0;
            for (int k = 0; k < count; k++) {
                boolean isOfIt = owners[k] == NONE || owners[k] == office;
                if (inForce[k] && isOfIt && firstWaves[k] <= wave) {
                    most = Math.max(most, numbers[k]);
                }
            }
            return most;
        }

        /** Where the reader stands behind a letter; NONE: it can't stand there. */
        private int step(int state, int letter) {
            int digit = isWithin(letter, '0', '9') ? letter - '0' : NONE;
            switch (state) {
                case START:
                    return letter == 'a' ? MONEY : letter == 'o' ? WHOSE : NONE;
                case WHOSE:
                    owner = digit;
                    return digit == NONE ? NONE : MONEY;
                case MONEY:
                    return letter == 'm' ? NUMBER : NONE;
                case NUMBER:
                    number = digit;
                    return digit == NONE ? NONE : digit == 0 ? FROM : SECOND_DIGIT;
                case SECOND_DIGIT:
                    if (digit != NONE) {
                        number = 10 * number + digit;
                        return FROM;
                    }
                    return letter == 'f' ? WAVE : NONE;
                case FROM:
                    return letter == 'f' ? WAVE : NONE;
                case WAVE:
                    firstWave = digit;
                    return isWave(digit) ? WHOLE : NONE;
                default:
                    return NONE;
            }
        }
    }

    /** The embassies, round the palace. */
    private static final class Embassies {
        int count;
        int palacePlot = PLOTS - 1;
        final int[] ranks = new int[MAX_EMBASSIES];

        int add(int rank) {
            ranks[count] = rank;
            return count++;
        }

        int plotOf(int embassy) {
            int ahead = countAhead(embassy);
            // Distances begin with 1: so the palace's own plot is never come to.
            for (int distance = 1; distance <= 2 * SIDE; distance++) {
                for (int plot = 0; plot < PLOTS; plot++) {
                    if (distanceOf(plot) == distance) {
                        if (ahead == 0) {
                            return plot;
                        }
                        ahead--;
                    }
                }
            }
            return NONE;
        }

        private int countAhead(int embassy) {
            int ahead = 0;
            for (int k = 0; k < count; k++) {
                if (ranks[k] > ranks[embassy] || ranks[k] == ranks[embassy] && k < embassy) {
                    ahead++;
                }
            }
            return ahead;
        }

        private int distanceOf(int plot) {
            return Math.abs(plot / SIDE - palacePlot / SIDE)
                    + Math.abs(plot % SIDE - palacePlot % SIDE);
        }
    }

    /** Where each file is. */
    private static final class Files {
        static final int OLD_TOWN = 0;
        static final int ROAD = 1;
        static final int NEW_TOWN = 2;

        int count;
        final int[] place = new int[MAX_FILES];

        int add(int where) {
            place[count] = where;
            return count++;
        }

        void arrive() {
            for (int k = 0; k < count; k++) {
                if (place[k] == ROAD) {
                    place[k] = NEW_TOWN;
                }
            }
        }

        int countOnRoad() {
            int n = 0;
            for (int k = 0; k < count; k++) {
                if (place[k] == ROAD) {
                    n++;
                }
            }
            return n;
        }
    }

    /** The shelves: each holds NONE, an office's number, or ROWS_FROM and the sort of a row. */
    private static final class Shelves {
        final int[] holding = new int[] {NONE, NONE, NONE, NONE, NONE, NONE, NONE, NONE};
        final int[] length = new int[SHELVES];
        final long[][] elements = new long[SHELVES][MAX_ELEMENTS];

        boolean isEmpty(int s) {
            return holding[s] == NONE;
        }

        boolean isRow(int s) {
            return holding[s] >= ROWS_FROM;
        }

        /** An office where a row is wanted, or rows of two sorts. */
        boolean clash(int p, int q) {
            boolean office = !isEmpty(p) && !isRow(p) || !isEmpty(q) && !isRow(q);
            return office || isRow(p) && isRow(q) && holding[p] != holding[q];
        }

        boolean reaches(int s, int from, int n) {
            return from >= 0 && (long) from + n <= length[s];
        }

        void putRow(int s, int sort, int n) {
            holding[s] = ROWS_FROM + sort;
            length[s] = n;
            for (int i = 0; i < MAX_ELEMENTS; i++) {
                elements[s][i] = 0L;
            }
        }

        void put(int s, int i, long v) {
            switch (holding[s] - ROWS_FROM) {
                case 0: elements[s][i] = (byte) v; break;
                case 1: elements[s][i] = (short) v; break;
                case 2: elements[s][i] = (int) v; break;
                default: elements[s][i] = v; break;
            }
        }

        long valueAt(int s, int i) {
            return isRow(s) && isWithin(i, 0, length[s] - 1) ? elements[s][i] : 0L;
        }
    }

    /** What is asked of the new town by each wave, and what it has. */
    private static final class Load {
        private final int[] desksOver = new int[WAVES];
        private final int[] desksGoing = new int[WAVES];
        private final int[] homesOver = new int[WAVES];
        private final int[] pupilsOver = new int[WAVES];
        private final int[] desksReady = new int[WAVES];
        private final int[] flatsReady = new int[WAVES];
        private final int[] seatsReady = new int[WAVES];
        private final int[] desks = new int[MAX_OFFICES];
        private final int[] homes = new int[MAX_OFFICES];
        private final int[] pupils = new int[MAX_OFFICES];
        private int most;

        void clear(Offices offices, Homes households, Supply supply) {
            int flats = 0;
            int seats = 0;
            for (int wave = 0; wave < WAVES; wave++) {
                flats += supply.readyIn(wave, Supply.FLATS);
                seats += supply.readyIn(wave, Supply.SEATS);
                desksReady[wave] = supply.desksBy(wave);
                flatsReady[wave] = flats;
                seatsReady[wave] = seats;
                desksOver[wave] = 0;
                desksGoing[wave] = 0;
                homesOver[wave] = 0;
                pupilsOver[wave] = 0;
            }
            for (int k = 0; k < offices.count; k++) {
                desks[k] = offices.desks[k];
                homes[k] = households.folkOf(k);
                pupils[k] = households.pupilsOf(k);
            }
            most = supply.most;
        }

        /** An office more (sign 1) or less (-1) in a wave; NEVER: none asks anything. */
        void change(int office, int wave, int sign) {
            if (wave < 0 || wave >= WAVES) {
                return;
            }
            desksGoing[wave] += sign * desks[office];
            for (int later = wave; later < WAVES; later++) {
                desksOver[later] += sign * desks[office];
                homesOver[later] += sign * homes[office];
                pupilsOver[later] += sign * pupils[office];
            }
        }

        boolean isLegal(int wave) {
            return desksOver[wave] <= desksReady[wave] && desksGoing[wave] <= most
                    && homesOver[wave] <= flatsReady[wave] && pupilsOver[wave] <= seatsReady[wave];
        }

        /** Whether what is legal stays so with one office more in a wave. */
        boolean fits(int office, int wave) {
            if (desksGoing[wave] + desks[office] > most) {
                return false;
            }
            for (int later = wave; later < WAVES; later++) {
                if (desksOver[later] + desks[office] > desksReady[later]
                        || homesOver[later] + homes[office] > flatsReady[later]
                        || pupilsOver[later] + pupils[office] > seatsReady[later]) {
                    return false;
                }
            }
            return true;
        }
    }

    /** Makes plans on a sheet of its own: the offices' plan changes only when one is adopted. */
    private static final class Planner {
        // Above every cost (45 ties of 20, cut in 5 waves): one change weighs more than all cuts.
        private static final int ONE_CHANGE = 10_000;
        // Above every price: 6 changes and the greatest cost.
        private static final int NO_PRICE = 1_000_000;
        // Each round lessens the cost, which is 4,500 at most.
        private static final int MOST_ROUNDS = 5_000;

        private final Load load = new Load();
        private final int[] trial = new int[MAX_OFFICES];
        private final int[] best = new int[MAX_OFFICES];
        private int firstWave;
        private int leastPrice;
        private int changePrice;
        private int leastCost;
        private int changed;
        private int changedToo;
        private int newWave;

        /** The first wave in which the offices' plan isn't legal; WAVES: it is. */
        int firstBreach(Offices offices, Homes homes, Supply supply) {
            load.clear(offices, homes, supply);
            for (int k = 0; k < offices.count; k++) {
                load.change(k, offices.waves[k], 1);
            }
            int wave = 0;
            while (wave < WAVES && load.isLegal(wave)) {
                wave++;
            }
            return wave;
        }

        /** An empty sheet, but for the offices that are moved. */
        void start(Offices offices, Homes homes, Supply supply, int now) {
            firstWave = now;
            load.clear(offices, homes, supply);
            for (int k = 0; k < offices.count; k++) {
                trial[k] = offices.moved[k] ? offices.waves[k] : NEVER;
                load.change(k, trial[k], 1);
            }
        }

        /** Whether there is a plan of that way; it is on the sheet then. */
        boolean make(Offices offices, int way) {
            if (way >= 2) {
                return makeBest(offices, way == 3);
            }
            if (!makeByRule(offices)) {
                return false;
            }
            if (way == 1) {
                improveBySwaps(offices);
            }
            return true;
        }

        void adopt(Offices offices) {
            for (int k = 0; k < offices.count; k++) {
                offices.waves[k] = trial[k];
            }
        }

        private boolean makeByRule(Offices offices) {
            for (int rank = MAX_RANK; rank >= 0; rank--) {
                for (int k = 0; k < offices.count; k++) {
                    if (offices.ranks[k] == rank && offices.isFree(k) && !placeEarliest(k)) {
                        return false;
                    }
                }
            }
            return true;
        }

        private boolean placeEarliest(int office) {
            for (int wave = firstWave; wave < WAVES; wave++) {
                if (load.fits(office, wave)) {
                    move(office, wave);
                    return true;
                }
            }
            return false;
        }

        private void move(int office, int wave) {
            load.change(office, trial[office], -1);
            trial[office] = wave;
            load.change(office, wave, 1);
        }

        private void exchange(int a, int b) {
            int waveOfA = trial[a];
            move(a, trial[b]);
            move(b, waveOfA);
        }

        private void improveBySwaps(Offices offices) {
            for (int round = 0; round < MOST_ROUNDS; round++) {
                leastCost = offices.costOf(trial);
                changed = NONE;
                tryMoves(offices);
                tryExchanges(offices);
                if (changed == NONE) {
                    return;
                }
                if (changedToo == NONE) {
                    move(changed, newWave);
                } else {
                    exchange(changed, changedToo);
                }
            }
        }

        private void tryMoves(Offices offices) {
            for (int k = 0; k < offices.count; k++) {
                if (offices.isFree(k)) {
                    int was = trial[k];
                    for (int wave = firstWave; wave < WAVES; wave++) {
                        move(k, wave);
                        if (isBetter(offices)) {
                            changed = k;
                            changedToo = NONE;
                            newWave = wave;
                        }
                    }
                    move(k, was);
                }
            }
        }

        private void tryExchanges(Offices offices) {
            for (int a = 0; a < offices.count; a++) {
                for (int b = a + 1; b < offices.count; b++) {
                    if (offices.isFree(a) && offices.isFree(b)) {
                        exchange(a, b);
                        if (isBetter(offices)) {
                            changed = a;
                            changedToo = b;
                        }
                        exchange(a, b);
                    }
                }
            }
        }

        private boolean isBetter(Offices offices) {
            int cost = offices.costOf(trial);
            if (cost >= leastCost) {
                return false;
            }
            for (int wave = 0; wave < WAVES; wave++) {
                if (!load.isLegal(wave)) {
                    return false;
                }
            }
            leastCost = cost;
            return true;
        }

        private boolean makeBest(Offices offices, boolean mending) {
            leastPrice = NO_PRICE;
            changePrice = mending ? ONE_CHANGE : 0;
            search(this, offices, 0, 0);
            if (leastPrice == NO_PRICE) {
                return false;
            }
            System.arraycopy(best, 0, trial, 0, MAX_OFFICES);
            return true;
        }

        /**
         * Gives waves to the offices from one number on, the lesser waves first: so of plans of
         * one price the first that is found is the one that is wanted. The depth is the number
         * of offices.
         */
        private static void search(Planner p, Offices offices, int office, int price) {
            // Prices only grow, and what isn't legal stays so: the rest of such a branch is vain.
            if (price >= p.leastPrice) {
                return;
            }
            if (office >= offices.count) {
                p.leastPrice = price;
                System.arraycopy(p.trial, 0, p.best, 0, MAX_OFFICES);
                return;
            }
            if (!offices.isFree(office)) {
                search(p, offices, office + 1, price);
                return;
            }
            for (int wave = p.firstWave; wave < WAVES; wave++) {
                if (p.load.fits(office, wave)) {
                    p.move(office, wave);
                    search(p, offices, office + 1, price + p.priceOf(offices, office));
                    p.move(office, NEVER);
                }
            }
        }

        /** What an office adds to the price of those that have their place on the sheet already. */
        private int priceOf(Offices offices, int office) {
            int price = trial[office] == offices.waves[office] ? 0 : changePrice;
            for (int k = 0; k < offices.count; k++) {
                if (k < office || !offices.isFree(k)) {
                    int apart = Math.abs(trial[office] - trial[k]);
                    price += offices.ties[office * MAX_OFFICES + k] * apart;
                }
            }
            return price;
        }
    }
}
