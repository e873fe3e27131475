/** Promises 25 to 28: BEGIN, waves that are lived, and where households are. */
public final class WavesTest {
    private WavesTest() {
    }

    public static void main(String[] args) {
        beginsOnce();
        nextRefuses();
        officesMove();
        choices();
        likeCosts();
        flatsAndSeatsRunOut();
        trainRunsOut();
        travellersChooseAnew();
        travellerKeepsRoom();
        payLowersCost();
        rentChanges();
        noSuchThing();
        Due.end();
    }

    private static void beginsOnce() {
        CapitalMoved x = new CapitalMoved();
        x.office(1, 0);
        x.office(1, 0);
        x.office(1, 0);
        x.give(1, 4);
        x.give(2, 0);
        Due.due("status(10)", x.status(10), 0);
        Due.due("begin()", x.begin(), 2);
        Due.due("status(10)", x.status(10), 1);
        Due.due("status(9)", x.status(9), 0);
        Due.due("begin()", x.begin(), Due.WRONG);
        Due.refusals("begin", x, 0, 0, 0, 0, 0, 1, 0);
    }

    private static void nextRefuses() {
        CapitalMoved x = new CapitalMoved();
        x.office(10, 0);
        x.office(10, 0);
        x.building(10, 1);
        Due.due("ahead of BEGIN", x.next(), Due.WRONG);
        x.give(0, 1);
        x.give(1, 3);
        x.begin();
        Due.due("a later wave is not legal", x.legal(), 3);
        Due.due("wave 0", x.next(), 0);
        Due.due("wave 1", x.next(), 0);
        Due.due("wave 2", x.next(), 0);
        Due.due("NOW is not legal", x.next(), Due.WRONG);
        Due.due("nothing is changed", x.status(9), 3);
        Due.due("nothing is changed", x.town(0), 20);
        x.give(1, 4);
        Due.due("wave 3", x.next(), 0);
        x.give(1, -1);
        Due.due("wave 4", x.next(), 0);
        Due.due("status(9)", x.status(9), 5);
        Due.due("all were lived", x.next(), Due.WRONG);
        Due.due("status(9)", x.status(9), 5);
        Due.refusals("next", x, 0, 0, 0, 0, 0, 3, 0);
        CapitalMoved y = new CapitalMoved();
        y.office(10, 0);
        y.give(0, 0);
        y.begin();
        Due.due("NOW 0 is not legal", y.next(), Due.WRONG);
    }

    private static void officesMove() {
        CapitalMoved x = new CapitalMoved();
        for (int k = 0; k < 4; k++) {
            x.office(1, 0);
            x.folk(k, 0, 1 + k);
        }
        Due.plenty(x);
        x.kind(0, 4, 100);
        x.kind(0, 3, 100);
        x.give(0, 1);
        x.give(1, 0);
        x.give(2, 1);
        x.begin();
        Due.due("in the old town", x.people(0, 0), 1);
        Due.due("wave 0", x.next(), 2);
        Due.due("status(2)", x.status(2), 1);
        Due.due("people(0, 0)", x.people(0, 0), 1);
        Due.due("people(1, 0)", x.people(1, 0), 0);
        Due.due("people(1, 1)", x.people(1, 1), 2);
        Due.due("wave 1", x.next(), 4);
        Due.due("status(2)", x.status(2), 3);
        Due.due("status(18)", x.status(18), 10);
        Due.due("status(19)", x.status(19), 6);
        Due.due("wave 2", x.next(), 0);
        Due.due("people(3, 0)", x.people(3, 0), 4);
        Due.due("free flats", x.town(1), 1194);
        Due.due("free seats", x.town(2), 1200);
    }

    /** One office with households of kind 0, which moves in wave 0; flats for all of them. */
    private static CapitalMoved oneOffice(int households) {
        CapitalMoved x = new CapitalMoved();
        x.office(1, 0);
        x.building(10, 0);
        x.ready(0, 0, 40);
        x.ready(0, 1, 40);
        x.folk(0, 0, households);
        x.give(0, 0);
        return x;
    }

    private static void tell(CapitalMoved x, int home, int spouse, int children, int fare, int loss) {
        x.kind(0, 0, home);
        x.kind(0, 1, spouse);
        x.kind(0, 2, children);
        x.kind(0, 3, fare);
        x.kind(0, 4, loss);
    }

    private static void people(String when, CapitalMoved x, int moved, int travel, int quit) {
        Due.due(when + ": old town", x.people(0, 0), 0);
        Due.due(when + ": MOVED", x.people(0, 1), moved);
        Due.due(when + ": TRAVEL", x.people(0, 2), travel);
        Due.due(when + ": QUIT", x.people(0, 3), quit);
        Due.due(when + ": status(19)", x.status(19), moved);
        Due.due(when + ": status(20)", x.status(20), travel);
        Due.due(when + ": status(21)", x.status(21), quit);
    }

    private static void choices() {
        CapitalMoved x = oneOffice(3);
        tell(x, 10, 9, 0, 50, 60);
        x.begin();
        Due.due("to MOVE costs 39", x.next(), 3);
        people("to MOVE", x, 3, 0, 0);
        x = oneOffice(3);
        tell(x, 10, 11, 7, 33, 60);
        x.begin();
        Due.due("to MOVE costs 41, to TRAVEL 40", x.next(), 0);
        people("to TRAVEL", x, 0, 3, 0);
        Due.due("free room", x.town(3), 397);
        x = oneOffice(3);
        tell(x, 10, 11, 0, 41, 40);
        x.begin();
        Due.due("to QUIT costs 40", x.next(), 0);
        people("to QUIT", x, 0, 0, 3);
        Due.due("free flats", x.town(1), 40);
    }

    private static void likeCosts() {
        CapitalMoved x = oneOffice(1);
        tell(x, 10, 10, 0, 40, 40);
        x.begin();
        x.next();
        people("all cost 40", x, 1, 0, 0);
        x = oneOffice(1);
        tell(x, 11, 10, 0, 40, 40);
        x.begin();
        x.next();
        people("TRAVEL and QUIT cost 40", x, 0, 1, 0);
        x = oneOffice(1);
        tell(x, 10, 10, 0, 41, 40);
        x.begin();
        x.next();
        people("MOVE and QUIT cost 40", x, 1, 0, 0);
        x = oneOffice(1);
        tell(x, 10, 10, 0, 40, 41);
        x.begin();
        x.next();
        people("MOVE and TRAVEL cost 40", x, 1, 0, 0);
    }

    private static void flatsAndSeatsRunOut() {
        // All are in flats by the plan; who travels leaves flats to nobody, so those that move
        // can't come to lack one but by travellers of earlier waves.
        CapitalMoved x = new CapitalMoved();
        x.office(1, 0);
        x.office(1, 0);
        x.building(10, 0);
        x.folk(0, 0, 4);
        x.folk(1, 1, 4);
        x.ready(0, 0, 4);
        x.ready(1, 0, 4);
        x.ready(1, 1, 4);
        x.kind(0, 4, 100);
        x.kind(1, 2, 1);
        x.kind(1, 3, 50);
        x.kind(1, 4, 100);
        x.give(0, 0);
        x.give(1, 1);
        x.begin();
        Due.due("to TRAVEL is free", x.next(), 0);
        Due.due("free flats", x.town(1), 4);
        Due.due("free flats: rent falls", x.town(0), 19);
        Due.due("wave 1", x.next(), 4);
        Due.due("TRAVEL", x.people(0, 2), 4);
        Due.due("free flats", x.town(1), 4);
        Due.due("free seats", x.town(2), 0);
    }

    private static void trainRunsOut() {
        CapitalMoved x = oneOffice(5);
        x.limit(1, 3);
        tell(x, 90, 90, 0, 5, 100);
        x.begin();
        Due.due("wave 0", x.next(), 0);
        people("a room for three", x, 0, 3, 2);
        Due.due("free room", x.town(3), 0);
        x = oneOffice(5);
        x.limit(1, 0);
        tell(x, 0, 0, 0, 5, 100);
        x.begin();
        Due.due("no TRAIN", x.next(), 5);
        people("no TRAIN", x, 5, 0, 0);
        x = oneOffice(5);
        x.limit(1, 2);
        tell(x, 0, 0, 0, 5, 20);
        x.begin();
        Due.due("the others MOVE", x.next(), 3);
        people("the others MOVE", x, 3, 2, 0);
    }

    private static void travellersChooseAnew() {
        // Rent falls by 1 a wave: to TRAVEL is less in wave 0, to MOVE from wave 1 on.
        CapitalMoved x = oneOffice(5);
        x.limit(1, 3);
        tell(x, 0, 0, 0, 19, 100);
        x.begin();
        Due.due("wave 0", x.next(), 2);
        people("wave 0", x, 2, 3, 0);
        Due.due("rent", x.town(0), 19);
        Due.due("wave 1", x.next(), 3);
        people("wave 1", x, 5, 0, 0);
        Due.due("free room", x.town(3), 3);
        Due.due("free flats", x.town(1), 35);
        Due.due("wave 2", x.next(), 0);
        people("wave 2", x, 5, 0, 0);
    }

    private static void travellerKeepsRoom() {
        CapitalMoved x = oneOffice(2);
        x.office(1, 0);
        x.folk(1, 1, 2);
        x.kind(1, 0, 100);
        x.kind(1, 1, 100);
        x.kind(1, 4, 50);
        x.give(1, 1);
        x.limit(1, 2);
        tell(x, 90, 90, 0, 5, 100);
        x.begin();
        Due.due("wave 0", x.next(), 0);
        Due.due("the TRAIN is full", x.town(3), 0);
        Due.due("wave 1", x.next(), 0);
        people(x, 0, 0, 2, 0);
        people(x, 1, 0, 0, 2);
        // A traveller who moves gives room to those who are asked behind it.
        x = oneOffice(2);
        x.office(1, 0);
        x.folk(1, 1, 2);
        x.kind(1, 0, 100);
        x.kind(1, 1, 100);
        x.kind(1, 4, 50);
        x.give(1, 1);
        x.limit(1, 1);
        tell(x, 0, 0, 0, 19, 100);
        x.begin();
        Due.due("wave 0", x.next(), 1);
        Due.due("wave 1", x.next(), 1);
        people(x, 0, 2, 0, 0);
        people(x, 1, 0, 1, 1);
    }

    private static void people(CapitalMoved x, int office, int moved, int travel, int quit) {
        Due.due("MOVED of " + office, x.people(office, 1), moved);
        Due.due("TRAVEL of " + office, x.people(office, 2), travel);
        Due.due("QUIT of " + office, x.people(office, 3), quit);
    }

    private static void payLowersCost() {
        CapitalMoved x = oneOffice(2);
        tell(x, 10, 10, 3, 10, 12);
        Due.letters(x, 0, 0, "o0m28f0");
        x.law(0);
        x.vote(0, 1, 0, 1, 0);
        x.begin();
        Due.due("to MOVE costs 12", x.next(), 2);
        Due.due("PAY in all", x.town(4), 56);
        Due.due("free seats", x.town(2), 38);
        x = oneOffice(2);
        tell(x, 0, 0, 0, 0, 0);
        Due.letters(x, 0, 0, "am99f0");
        x.law(0);
        x.vote(0, 1, 0, 1, 0);
        x.begin();
        Due.due("to MOVE costs 0 at least", x.next(), 2);
        Due.due("PAY in all", x.town(4), 198);
        x = oneOffice(2);
        tell(x, 20, 0, 0, 15, 100);
        Due.letters(x, 0, 0, "am22f1");
        x.law(0);
        x.vote(0, 1, 0, 1, 0);
        x.begin();
        Due.due("no PAY yet", x.next(), 0);
        Due.due("no PAY yet", x.town(4), 0);
        Due.due("PAY of this wave: 39 - 22 is above 15", x.next(), 0);
        Due.letters(x, 1, 0, "o0m24f2");
        x.law(1);
        x.vote(1, 1, 0, 1, 0);
        Due.due("PAY of this wave: 38 - 24 is 14", x.next(), 2);
        Due.due("PAY in all", x.town(4), 48);
    }

    private static void rentChanges() {
        CapitalMoved x = oneOffice(39);
        tell(x, 0, 0, 0, 100, 100);
        x.begin();
        Due.due("39 move", x.next(), 39);
        Due.due("3 more, 1 less", x.town(0), 22);
        x = oneOffice(40);
        tell(x, 0, 0, 0, 100, 100);
        x.begin();
        Due.due("40 move", x.next(), 40);
        Due.due("4 more, no flat is free", x.town(0), 24);
        x.next();
        Due.due("none is free still", x.town(0), 24);
        x = oneOffice(0);
        x.limit(2, 1);
        x.begin();
        x.next();
        Due.due("1 less", x.town(0), 0);
        x.next();
        Due.due("0 at least", x.town(0), 0);
        x = new CapitalMoved();
        x.limit(2, 1000);
        x.ready(1, 0, 1);
        x.begin();
        x.next();
        Due.due("no flat is ready yet", x.town(0), 1000);
        x.next();
        Due.due("1 less", x.town(0), 999);
        x.next();
        Due.due("1 less again", x.town(0), 998);
    }

    private static void noSuchThing() {
        CapitalMoved x = oneOffice(1);
        Due.due("people(1, 0)", x.people(1, 0), -1);
        Due.due("people(-1, 0)", x.people(-1, 0), -1);
        Due.due("people(0, 4)", x.people(0, 4), -1);
        Due.due("people(0, -1)", x.people(0, -1), -1);
        Due.due("town(5)", x.town(5), -1);
        Due.due("town(-1)", x.town(-1), -1);
        Due.refusals("people", x, 0, 0, 0, 0, 0, 0, 0);
    }
}
