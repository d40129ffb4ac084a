/** "A call that throws changes nothing", and what is answered with a refusal does nothing either. */
public final class RefusedTest {
    private static final int NONE = KeptHouse.NONE;

    public static void main(String[] args) {
        thrownByThePlan();
        thrownByWhatIsTold();
        thrownByMinutes();
        thrownByAccessAndCare();
        thrownByStoreAndTape();
        fullText();
        workerOnTour();
        fullReel();
        mergeWithConflicts();
        mergeOfMany();
        noSuchConflict();
        wrongText();
        noTrippedCircuit();
        burningCell();
        fullDoors();
        refusedAtTheDoor();
        fullTickets();
        emptyTour();
        fullOrders();
        faultyImages();
        Check.end();
    }

    /** A house in which something of each sort was told, and some minutes have gone. */
    private static KeptHouse lived() {
        KeptHouse x = new KeptHouse(11L);
        x.edit(0, 0, 4, 6, 9, 1);
        x.merge(0);
        x.edit(1, 0, 1, 3, 3, 3);
        x.flat(0, 0, 0);
        x.people(0, 0, 3);
        x.people(0, 1, 2);
        Told.program(x, "s0=210;v=2;");
        x.card(0, 1, 0, 23, false);
        x.door(0, 0);
        x.go(0, 0);
        x.point(0, 2, 10);
        x.ticket(0, 5);
        x.ticket(1, 6);
        x.life(2, 7);
        x.tour(1);
        x.ignite(4, 47);
        x.run(10);
        x.type('l');
        x.feed(3);
        x.image();
        return x;
    }

    /** A call with arguments that are out of their bounds, or not at its time. */
    interface Refused {
        void call(KeptHouse x);
    }

    private static void throwing(String what, Refused... calls) {
        KeptHouse x = lived();
        for (int i = 0; i < calls.length; i++) {
            Refused refused = calls[i];
            Check.illegalArgument(what + ", call " + i, () -> refused.call(x));
        }
        same(what, x, lived());
    }

    private static void same(String what, KeptHouse x, KeptHouse y) {
        Check.due(what + " changes nothing", Look.at(x).equals(Look.at(y)), true);
    }

    private static void thrownByThePlan() {
        throwing("take", x -> x.take(3), x -> x.take(-1));
        throwing("edit", x -> x.edit(1, 0, 1, 2, 109, 2), x -> x.edit(1, 0, 1, 1, 1, 4),
                x -> x.edit(1, 0, 0, 111, 1, 2), x -> x.edit(1, 0, 0, 2, 111, 2), x -> x.edit(1, 0, 1, 110, 1, 2));
        throwing("merge", x -> x.merge(3), x -> x.merge(-1));
        throwing("conflict", x -> x.conflict(1, -1), x -> x.conflict(3, 0));
        throwing("settle", x -> x.settle(1, -1, false), x -> x.settle(3, 0, false));
        throwing("edge", x -> x.edge(5, 0), x -> x.draft(0, 0, 110), x -> x.space(6, 0), x -> x.spaceAt(0, 48),
                x -> x.between(0, 6, 0), x -> x.between(0, 0, 4));
    }

    private static void thrownByWhatIsTold() {
        throwing("flat", x -> x.flat(0, 0, 10), x -> x.flat(0, 48, 1), x -> x.flat(5, 0, 1));
        throwing("people", x -> x.people(0, 1, 21), x -> x.people(0, 24, 1), x -> x.people(10, 1, 1));
        throwing("weather", x -> x.weather(1, 501), x -> x.weather(1, -401), x -> x.weather(24, 1));
        throwing("sun", x -> x.sun(0, 1, 201), x -> x.sun(4, 1, 1), x -> x.sun(0, 24, 1));
        throwing("rate", x -> x.rate(0, 0, 1), x -> x.rate(0, 7, 10), x -> x.rate(0, 501, 1), x -> x.rate(11, 1, 1));
        throwing("price", x -> x.price(0, 20001), x -> x.price(1, 1001), x -> x.price(4, 1));
        throwing("life", x -> x.life(0, 0), x -> x.life(0, 100001), x -> x.life(3, 1));
        throwing("type", x -> x.type(31), x -> x.type(127));
        throwing("fault", x -> x.fault(2), x -> x.target(16));
    }

    private static void thrownByMinutes() {
        throwing("run", x -> x.run(0), x -> x.run(121), x -> x.run(-1));
        throwing("fuel", x -> x.fuel(1001), x -> x.fuel(-1));
        throwing("reset", x -> x.reset(11), x -> x.reset(-1), x -> x.circuit(11, 0), x -> x.state(11));
        throwing("ignite", x -> x.ignite(0, 48), x -> x.ignite(5, 0), x -> x.cell(0, 0, 6), x -> x.detected(6));
        throwing("alarm", x -> x.alarm(32, 0), x -> x.alarm(0, 2));
    }

    private static void thrownByAccessAndCare() {
        throwing("door", x -> x.door(1, 0), x -> x.door(0, 110), x -> x.door(5, 1));
        throwing("card", x -> x.card(0, 1 << 20, 1, 1, true), x -> x.card(0, 0, 24, 1, true),
                x -> x.card(0, 0, 1, 24, true), x -> x.card(40, 0, 1, 1, true));
        throwing("go", x -> x.go(0, 1), x -> x.go(1, 0), x -> x.go(0, 20));
        throwing("place", x -> x.place(1), x -> x.inside(6), x -> x.log(1, 0), x -> x.log(0, 4));
        throwing("point", x -> x.point(0, 7, 0), x -> x.point(0, 2, 11), x -> x.point(8, 2, 0));
        throwing("trend", x -> x.trend(0, 1), x -> x.trend(1, 0));
        throwing("ticket", x -> x.ticket(0, 48), x -> x.ticket(5, 0), x -> x.ticketOf(2, 0));
        throwing("tour", x -> x.tour(2), x -> x.tour(-1), x -> x.worker(0, 4));
        throwing("order", x -> x.order(0, 10), x -> x.order(0, 0), x -> x.order(3, 1), x -> x.part(0, 4));
        throwing("pay", x -> x.pay(0, 0), x -> x.pay(0, 100000001), x -> x.pay(10, 1));
        throwing("meter", x -> x.meter(11, 0), x -> x.account(10, 0), x -> x.money(4));
    }

    private static void thrownByStoreAndTape() {
        throwing("crash", x -> x.crash(-2), x -> x.crash(1001));
        throwing("rows", x -> x.rows(4), x -> x.disk(0, 200, 0));
        throwing("tape", x -> x.tape(100000), x -> x.tape(-1));
        throwing("feed", x -> x.feed(256), x -> x.feed(-1));
        throwing("poke", x -> x.poke(1, 0), x -> x.poke(0, 256));
        KeptHouse x = new KeptHouse(0L);
        x.crash(1);
        Check.illegalArgument("crash", () -> x.crash(1001));
        x.flat(0, 0, 1);
        Check.due("what crash said before stands", x.flat(0, 0, 2), KeptHouse.CUT);
    }

    /** type(): "illegal state: also if it has 196"; the illegal argument is named first. */
    private static void fullText() {
        KeptHouse x = new KeptHouse(0L);
        for (int i = 1; i < 196; i++) {
            x.type(' ');
        }
        Check.due("the 196th", x.type(' '), 196);
        Check.illegalState("a 197th", () -> x.type(' '));
        Check.illegalArgument("what is named first", () -> x.type(127));
        Check.due("it is still a program", x.load(), 0);
        Check.due("196 of them", x.wipe(), 196);
        Check.due("none now", x.wipe(), 0);
        Check.due("room again", x.type('l'), 1);
    }

    /** tour(): "illegal state: also if the worker is not free". */
    private static void workerOnTour() {
        KeptHouse x = lived();
        Check.illegalState("on tour", () -> x.tour(1));
        Check.illegalArgument("what is named first", () -> x.tour(2));
        same("a tour of one who is not free", x, lived());
    }

    /** feed(): "illegal state: also if it has 4100"; a full reel is made by copies. */
    private static void fullReel() {
        KeptHouse x = new KeptHouse(0L);
        for (int i = 0; i < 10; i++) {
            x.people(i, 0, 1);
        }
        x.image();
        for (int i = 0; i < 13; i++) {
            x.copy();
        }
        for (int i = 3978; i < 4099; i++) {
            x.feed(7);
        }
        Check.due("the 4100th", x.feed(8), 4100);
        Check.illegalState("a 4101st", () -> x.feed(9));
        Check.illegalArgument("what is named first", () -> x.feed(256));
        Check.due("no room for a copy", x.copy(), 4100);
        Check.due("the last byte stays", x.poke(4099, 0), 8);
        Check.due("4100 of them", x.empty(), 4100);
        Check.due("none now", x.empty(), 0);
    }

    /** merge(): "minus the number of CONFLICTS (nothing is done)". */
    private static void mergeWithConflicts() {
        KeptHouse x = conflicting();
        Check.due("three conflicts", x.merge(1), -3);
        KeptHouse y = conflicting();
        Check.due("nothing is done: version", x.version(), 1);
        Check.due("rows", x.rows(2), y.rows(2));
        Check.due("the plan", x.edge(0, 1), 1);
        Check.due("what is mine without a conflict is not merged", x.edge(3, 1), 0);
        Check.due("the draft", x.draft(1, 0, 1), 3);
        Check.due("still three", x.merge(1), -3);
    }

    private static KeptHouse conflicting() {
        KeptHouse x = new KeptHouse(0L);
        x.edit(0, 0, 1, 3, 1, 1);
        x.merge(0);
        x.edit(1, 0, 1, 3, 1, 3);
        x.edit(1, 3, 1, 1, 1, 2);
        return x;
    }

    /** merge(): "MANY (nothing is done)". */
    private static void mergeOfMany() {
        KeptHouse x = new KeptHouse(0L);
        x.edit(0, 0, 0, 110, 1, 2);
        Check.due("48 and 4", x.merge(0), KeptHouse.MANY);
        Check.due("version", x.version(), 0);
        Check.due("rows", x.rows(2), 1);
        Check.due("spaces", x.spaces(), 5);
        Check.due("plan", x.edge(0, 1), 0);
        Check.due("draft", x.draft(0, 0, 1), 2);
        Check.due("other desks", x.merge(1), 1);
        Check.due("it is still mine", x.merge(0), KeptHouse.MANY);
    }

    /** settle(): "NONE, and nothing is done, if it has not so many". */
    private static void noSuchConflict() {
        KeptHouse x = conflicting();
        Check.due("there are 0, 1, 2", x.settle(1, 3, false), NONE);
        Check.due("nor far more", x.settle(1, Integer.MAX_VALUE, true), NONE);
        Check.due("the draft", x.draft(1, 0, 3), 3);
        Check.due("all are left", x.merge(1), -3);
    }

    /** load(): "WRONG (the program is as it was)". */
    private static void wrongText() {
        KeptHouse x = new KeptHouse(0L);
        Told.program(x, "s0=77;");
        x.run(1);
        int rows = x.rows(2);
        Told.text(x, "s0=88;s0=");
        Check.due("wrong", x.load(), KeptHouse.WRONG);
        Check.due("nothing is written", x.rows(2), rows);
        Check.due("targets stay", x.target(0), 77);
        x.run(1);
        Check.due("the program runs on", x.target(0), 77);
        Check.due("the text stays", x.wipe(), 9);
        x.reopen();
        x.run(1);
        Check.due("and is kept", x.target(0), 77);
    }

    /** reset(): "if not, nothing is done": its HEATING stays. */
    private static void noTrippedCircuit() {
        KeptHouse x = new KeptHouse(0L);
        x.rate(10, 24, 0);
        x.run(1);
        Check.due("some heating", x.circuit(10, 1), 1);
        Check.due("not tripped", x.reset(10), false);
        Check.due("its heating stays", x.circuit(10, 1), 1);
    }

    /** ignite(): "a cell without a flame gets one of 10: whether it had none". */
    private static void burningCell() {
        KeptHouse x = new KeptHouse(0L);
        Check.due("none", x.ignite(0, 0), true);
        x.run(1);
        Check.due("grown", x.cell(0, 0, 4), 20);
        Check.due("it has one", x.ignite(0, 0), false);
        Check.due("it stays as it is", x.cell(0, 0, 4), 20);
    }

    /** door(): "FULL when there are 20"; the illegal argument comes first. */
    private static void fullDoors() {
        KeptHouse x = new KeptHouse(0L);
        for (int i = 0; i < 20; i++) {
            Check.due("door " + i, x.door(0, 0), i);
        }
        int rows = x.rows(2);
        Check.due("a 21st", x.door(0, 8), KeptHouse.FULL);
        Check.illegalArgument("not there", () -> x.door(1, 8));
        Check.due("nothing is written", x.rows(2), rows);
        Check.due("keys", x.rows(3), 20);
    }

    /** A card that does not go stays where it is, but is logged. */
    private static void refusedAtTheDoor() {
        KeptHouse x = new KeptHouse(0L);
        x.door(0, 0);
        x.card(0, 0, 0, 23, false);
        Check.due("no right", x.go(0, 0), 1);
        Check.due("outside", x.place(0), NONE);
        Check.due("logged", x.log(0, 3), 1);
    }

    /** ticket(): "FULL when there are 16". */
    private static void fullTickets() {
        KeptHouse x = new KeptHouse(0L);
        for (int i = 0; i < 16; i++) {
            Check.due("ticket " + i, x.ticket(0, 0), i);
        }
        Check.due("a 17th", x.ticket(0, 0), KeptHouse.FULL);
        Check.illegalArgument("not there", () -> x.ticket(0, 48));
        Check.due("sixteen", x.tickets(), 16);
        Check.due("nothing is written", x.rows(2), 17);
        x.tour(0);
        Told.runTo(x, 16);
        Check.due("one is done", x.tickets(), 15);
        Check.due("no number was lost", x.ticket(0, 0), 16);
    }

    /** tour(): "with none it stays free". */
    private static void emptyTour() {
        KeptHouse x = new KeptHouse(0L);
        Check.due("none", x.tour(0), 0);
        Check.due("none again: it is free", x.tour(0), 0);
        Check.due("no back", x.worker(0, 3), NONE);
        x.ticket(0, 0);
        Check.due("now one", x.tour(0), 1);
    }

    /** order(): "FULL when 8 are under way". */
    private static void fullOrders() {
        KeptHouse x = new KeptHouse(0L);
        for (int i = 0; i < 8; i++) {
            Check.due("order " + i, x.order(1, 1), 480);
        }
        Check.due("a ninth", x.order(1, 9), KeptHouse.FULL);
        Check.illegalArgument("no such part", () -> x.order(3, 1));
        Told.runTo(x, 480);
        Check.due("all are still under way", x.order(1, 9), KeptHouse.FULL);
        x.run(1);
        Check.due("eight came", x.part(1, 2), 8);
        Check.due("room again", x.order(1, 9), 961);
    }

    /** put(): "its FAULT 1 .. 4 (nothing is changed)": the reel stays, too. */
    private static void faultyImages() {
        int[][] images = {
            {}, {0}, {0, 0, 0, 0, 0}, {0, 0, 0, 0, 0, 0},
            new Image().key(16, 0).bytes(), new Image().key(3, 0, 21).bytes(),
        };
        int[] faults = {1, 1, 1, 2, 3, 4};
        for (int i = 0; i < images.length; i++) {
            KeptHouse x = lived();
            KeptHouse y = lived();
            x.empty();
            y.empty();
            for (int b : images[i]) {
                x.feed(b);
                y.feed(b);
            }
            Check.due("put of image " + i, x.put(), faults[i]);
            same("put of image " + i, x, y);
        }
    }
}
