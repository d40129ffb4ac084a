/** Of each call each number: the least and the greatest are taken, those just beyond are refused. */
public final class ArgumentsTest {
    private static final int NONE = KeptHouse.NONE;

    public static void main(String[] args) {
        take();
        edit();
        noSuchEdge();
        merge();
        conflict();
        settle();
        edge();
        draft();
        space();
        spaceOfForty();
        spaceAt();
        between();
        flat();
        people();
        weather();
        sun();
        rate();
        price();
        life();
        type();
        fault();
        target();
        run();
        fuel();
        reset();
        circuit();
        state();
        cell();
        ignite();
        detected();
        alarm();
        door();
        card();
        go();
        place();
        inside();
        log();
        point();
        trend();
        ticket();
        ticketOf();
        tour();
        worker();
        order();
        part();
        meter();
        account();
        money();
        pay();
        crash();
        rows();
        disk();
        tape();
        feed();
        poke();
        Check.end();
    }

    private static KeptHouse house() {
        return new KeptHouse(0L);
    }

    private static void take() {
        KeptHouse x = house();
        Bound.of("take desk", 0, 2, v -> x.take(v));
    }

    private static void edit() {
        KeptHouse x = house();
        Bound.of("edit desk", 0, 2, v -> x.edit(v, 0, 1, 1, 1, 2));
        Bound.of("edit storey", 0, 4, v -> x.edit(0, v, 1, 1, 1, 2));
        Bound.of("edit e", 0, 109, v -> x.edit(0, 0, v, 1, 1, 2));
        Bound.of("edit n", 1, 110, v -> x.edit(0, 0, 0, v, 1, 2));
        Bound.of("edit step", 1, 110, v -> x.edit(0, 0, 0, 1, v, 2));
        Bound.of("edit kind", 0, 3, v -> x.edit(0, 0, 1, 1, 1, v));
    }

    /** "Illegal argument: also if one would be no edge": the last one is 109 or 110. */
    private static void noSuchEdge() {
        KeptHouse x = house();
        Check.due("0 .. 109", x.edit(0, 0, 0, 110, 1, 3), 110);
        Check.illegalArgument("1 .. 110", () -> x.edit(1, 0, 1, 110, 1, 3));
        Check.due("0 and 109", x.edit(1, 0, 0, 2, 109, 3), 2);
        Check.illegalArgument("0 and 110", () -> x.edit(1, 0, 0, 2, 110, 3));
        Check.illegalArgument("1 and 110", () -> x.edit(1, 0, 1, 2, 109, 3));
        Check.due("109 alone, whatever the step", x.edit(1, 0, 109, 1, 110, 3), 0);
        Check.illegalArgument("109 and 110", () -> x.edit(1, 0, 109, 2, 1, 3));
        Check.illegalArgument("110 of step 110", () -> x.edit(1, 0, 0, 110, 110, 3));
        Check.illegalArgument("-1 and 0", () -> x.edit(1, 1, -1, 2, 1, 3));
        Check.illegalArgument("-110 and 0", () -> x.edit(1, 1, -110, 2, 110, 3));
        Check.illegalArgument("none from 5 on", () -> x.edit(1, 0, 5, 0, 1, 3));
        Check.illegalArgument("-1 of them from 5 on", () -> x.edit(1, 0, 5, -1, 1, 3));
        Check.due("none of them was drawn", x.draft(1, 0, 1), 0);
        Check.due("nor in the storey below", x.draft(1, 0, 109), 3);
    }

    private static void merge() {
        KeptHouse x = house();
        Bound.of("merge desk", 0, 2, v -> x.merge(v));
        Check.due("two are done", x.version(), 2);
    }

    private static void conflict() {
        KeptHouse x = house();
        Bound.of("conflict desk", 0, 2, v -> x.conflict(v, 0));
        Bound.from("conflict k", 0, v -> x.conflict(0, v));
    }

    private static void settle() {
        KeptHouse x = house();
        Bound.of("settle desk", 0, 2, v -> x.settle(v, 0, false));
        Bound.from("settle k", 0, v -> x.settle(0, v, true));
    }

    private static void edge() {
        KeptHouse x = house();
        Bound.of("edge storey", 0, 4, v -> x.edge(v, 0));
        Bound.of("edge e", 0, 109, v -> x.edge(0, v));
    }

    private static void draft() {
        KeptHouse x = house();
        Bound.of("draft desk", 0, 2, v -> x.draft(v, 0, 0));
        Bound.of("draft storey", 0, 4, v -> x.draft(0, v, 0));
        Bound.of("draft e", 0, 109, v -> x.draft(0, 0, v));
    }

    private static void space() {
        KeptHouse x = house();
        Bound.of("space k", 0, 4, v -> x.space(v, 0));
        Bound.of("space what", 0, 6, v -> x.space(0, v));
        Told.room(x, 0, 0);
        Bound.of("space k with a room more", 0, 5, v -> x.space(v, 6));
    }

    private static KeptHouse forty() {
        KeptHouse x = house();
        for (int storey = 0; storey < 5; storey++) {
            for (int column = 1; column < 8; column++) {
                x.edit(0, storey, column, 6, 9, 1);
            }
        }
        x.merge(0);
        return x;
    }

    private static void spaceOfForty() {
        KeptHouse x = forty();
        Check.due("spaces", x.spaces(), 40);
        Bound.of("space k of 40", 0, 39, v -> x.space(v, 0));
        Bound.of("between a of 40", 0, 39, v -> x.between(v, 0, 1));
        Bound.of("between b of 40", 0, 39, v -> x.between(0, v, 1));
        Bound.of("detected of 40", 0, 39, v -> x.detected(v));
        Bound.of("inside of 40", 0, 39, v -> x.inside(v));
    }

    private static void spaceAt() {
        KeptHouse x = house();
        Bound.of("spaceAt storey", 0, 4, v -> x.spaceAt(v, 0));
        Bound.of("spaceAt cell", 0, 47, v -> x.spaceAt(0, v));
    }

    private static void between() {
        KeptHouse x = house();
        Bound.of("between a", 0, 4, v -> x.between(v, 0, 0));
        Bound.of("between b", 0, 4, v -> x.between(0, v, 0));
        Bound.of("between kind", 0, 3, v -> x.between(0, 1, v));
    }

    private static void flat() {
        KeptHouse x = house();
        Bound.of("flat storey", 0, 4, v -> x.flat(v, 0, 1));
        Bound.of("flat cell", 0, 47, v -> x.flat(0, v, 1));
        Check.due("of none", x.flat(2, 2, 0), 15);
        Check.due("of the first", x.flat(2, 2, 9), 0);
        for (int v = 10; v < 15; v++) {
            int flat = v;
            Check.illegalArgument("flat " + v, () -> x.flat(2, 2, flat));
        }
        Check.due("of the last", x.flat(2, 2, 15), 9);
        Check.illegalArgument("flat 16", () -> x.flat(2, 2, 16));
        Check.illegalArgument("flat -1", () -> x.flat(2, 2, -1));
        Check.due("of none again", x.flat(2, 2, 3), 15);
    }

    private static void people() {
        KeptHouse x = house();
        Bound.of("people flat", 0, 9, v -> x.people(v, 1, 1));
        Bound.of("people hour", 0, 23, v -> x.people(0, v, 1));
        Bound.of("people n", 0, 20, v -> x.people(5, 5, v));
        Check.due("20 were taken", x.people(5, 5, 0), 20);
    }

    private static void weather() {
        KeptHouse x = house();
        Bound.of("weather hour", 0, 23, v -> x.weather(v, 1));
        Bound.of("weather v", -400, 500, v -> x.weather(7, v));
        Check.due("500 was taken", x.weather(7, -400), 500);
        Check.due("-400, too", x.weather(7, 0), -400);
    }

    private static void sun() {
        KeptHouse x = house();
        Bound.of("sun side", 0, 3, v -> x.sun(v, 0, 1));
        Bound.of("sun hour", 0, 23, v -> x.sun(0, v, 1));
        Bound.of("sun v", 0, 200, v -> x.sun(2, 2, v));
        Check.due("200 was taken", x.sun(2, 2, 0), 200);
    }

    private static void rate() {
        KeptHouse x = house();
        Check.due("100 at first", x.rate(3, 7, 0), 100);
        Bound.of("rate circuit", 0, 10, v -> x.rate(v, 1, 1));
        Bound.of("rate rating", 1, 500, v -> x.rate(4, v, 0));
        Bound.of("rate rank", 0, 9, v -> x.rate(4, 500, v));
        Check.due("its rating", x.circuit(4, 4), 500);
        Check.due("its rank", x.circuit(4, 5), 9);
    }

    /** The CAP goes to 20000, the prices to 1000. */
    private static void price() {
        KeptHouse x = house();
        Check.due("the cap at first", x.price(0, 1), 5000);
        Bound.of("price what", 0, 3, v -> x.price(v, 1));
        Bound.of("price of the cap", 0, 20000, v -> x.price(0, v));
        for (int what = 1; what < 4; what++) {
            int w = what;
            Bound.of("price " + w, 0, 1000, v -> x.price(w, v));
            Check.due("1000 was taken", x.price(w, 0), 1000);
        }
        Check.due("20000 was taken", x.price(0, 0), 20000);
    }

    private static void life() {
        KeptHouse x = house();
        Check.due("5000 at first", x.life(1, 3), 5000);
        Bound.of("life part", 0, 2, v -> x.life(v, 1));
        Bound.of("life minutes", 1, 100000, v -> x.life(2, v));
        Check.due("100000 was taken", x.life(2, 1), 100000);
    }

    private static void type() {
        KeptHouse x = house();
        Bound.of("type c", 32, 126, v -> x.type(v));
        Check.due("two were taken", x.wipe(), 2);
    }

    private static void fault() {
        KeptHouse x = house();
        Bound.of("fault what", 0, 1, v -> x.fault(v));
    }

    private static void target() {
        KeptHouse x = house();
        Bound.of("target k", 0, 15, v -> x.target(v));
    }

    private static void run() {
        KeptHouse x = house();
        Bound.of("run n", 1, 120, v -> x.run(v));
        Check.due("121 minutes", x.state(10), 121);
    }

    private static void fuel() {
        KeptHouse x = house();
        Bound.of("fuel n", 0, 1000, v -> x.fuel(v));
    }

    private static void reset() {
        KeptHouse x = house();
        Bound.of("reset circuit", 0, 10, v -> x.reset(v));
    }

    private static void circuit() {
        KeptHouse x = house();
        Bound.of("circuit", 0, 10, v -> x.circuit(v, 0));
        Bound.of("circuit what", 0, 5, v -> x.circuit(0, v));
    }

    private static void state() {
        KeptHouse x = house();
        Bound.of("state what", 0, 10, v -> x.state(v));
    }

    private static void cell() {
        KeptHouse x = house();
        Bound.of("cell storey", 0, 4, v -> x.cell(v, 0, 0));
        Bound.of("cell", 0, 47, v -> x.cell(0, v, 0));
        Bound.of("cell what", 0, 5, v -> x.cell(0, 0, v));
    }

    private static void ignite() {
        KeptHouse x = house();
        Bound.of("ignite storey", 0, 4, v -> x.ignite(v, 1));
        Bound.of("ignite cell", 0, 47, v -> x.ignite(0, v));
        Check.due("the last cell burns", x.cell(0, 47, 4), 10);
        Check.due("the last storey burns", x.cell(4, 1, 4), 10);
    }

    private static void detected() {
        KeptHouse x = house();
        Bound.of("detected space", 0, 4, v -> x.detected(v));
    }

    /** "Also if it is not kept": there is none before the first alarm, and just one behind it. */
    private static void alarm() {
        KeptHouse x = house();
        Check.illegalArgument("no alarm yet", () -> x.alarm(0, 0));
        x.rate(10, 1, 0);
        x.run(1);
        Check.due("one alarm", x.alarms(), 1);
        Bound.of("alarm k", 0, 0, v -> x.alarm(v, 0));
        Bound.of("alarm what", 0, 1, v -> x.alarm(0, v));
    }

    private static void door() {
        KeptHouse x = house();
        Bound.of("door storey", 0, 4, v -> x.door(v, 1));
        Bound.of("door e", 0, 109, v -> x.door(0, v));
    }

    private static void card() {
        KeptHouse x = house();
        Bound.of("card", 0, 39, v -> x.card(v, 0, 0, 0, false));
        Bound.of("card rights", 0, 0xFFFFF, v -> x.card(0, v, 0, 0, false));
        Bound.of("card from", 0, 23, v -> x.card(0, 0, v, 0, false));
        Bound.of("card to", 0, 23, v -> x.card(0, 0, 0, v, false));
    }

    /** "Also if the card was never told"; a door that was never told is no door. */
    private static void go() {
        KeptHouse x = house();
        x.card(3, 1, 0, 23, false);
        x.door(0, 0);
        Bound.of("go card", 3, 3, v -> x.go(v, 0));
        Bound.of("go door", 0, 0, v -> x.go(3, v));
        for (int i = 1; i < 20; i++) {
            x.door(0, 0);
        }
        x.card(39, 1, 0, 23, false);
        x.card(0, 1, 0, 23, false);
        Bound.of("go door of 20", 0, 19, v -> x.go(3, v));
        Check.illegalArgument("card 40", () -> x.go(40, 0));
        Check.illegalArgument("card -1", () -> x.go(-1, 0));
        Check.illegalArgument("card 38", () -> x.go(38, 0));
        Check.due("card 39", x.go(39, 0), 0);
        Check.due("card 0", x.go(0, 0), 0);
    }

    private static void place() {
        KeptHouse x = house();
        Check.illegalArgument("never told", () -> x.place(0));
        x.card(0, 0, 0, 0, false);
        x.card(39, 0, 0, 0, false);
        Check.due("the first", x.place(0), NONE);
        Check.due("the last", x.place(39), NONE);
        Check.illegalArgument("1", () -> x.place(1));
        Check.illegalArgument("38", () -> x.place(38));
        Check.illegalArgument("40", () -> x.place(40));
        Check.illegalArgument("-1", () -> x.place(-1));
    }

    private static void inside() {
        KeptHouse x = house();
        Bound.of("inside space", 0, 4, v -> x.inside(v));
    }

    private static void log() {
        KeptHouse x = house();
        x.card(0, 1, 0, 23, false);
        x.door(0, 0);
        Check.illegalArgument("nothing is logged", () -> x.log(0, 0));
        x.go(0, 0);
        Bound.of("log k", 0, 0, v -> x.log(v, 0));
        Bound.of("log what", 0, 3, v -> x.log(0, v));
    }

    /** "Also if there is no such kind, or index for it": 10 flats, 11 circuits, 0 for the others. */
    private static void point() {
        KeptHouse x = house();
        Bound.of("point k", 0, 7, v -> x.point(v, 3, 0));
        Bound.of("point kind", 0, 6, v -> x.point(0, v, 0));
        int[] most = {9, 9, 10, 0, 0, 0, 0};
        for (int kind = 0; kind < 7; kind++) {
            int k = kind;
            Bound.of("index of kind " + kind, 0, most[kind], v -> x.point(1, k, v));
        }
    }

    /** "Also if it is not kept, or the point was never told." */
    private static void trend() {
        KeptHouse x = house();
        x.point(7, 3, 0);
        x.point(0, 3, 0);
        Check.illegalArgument("no value yet", () -> x.trend(7, 0));
        x.run(10);
        Bound.of("trend i", 0, 0, v -> x.trend(7, v));
        Check.illegalArgument("never told", () -> x.trend(6, 0));
        Check.illegalArgument("point 8", () -> x.trend(8, 0));
        Check.illegalArgument("point -1", () -> x.trend(-1, 0));
        Check.due("point 0", x.trend(0, 0), 2000);
    }

    private static void ticket() {
        KeptHouse x = house();
        Bound.of("ticket storey", 0, 4, v -> x.ticket(v, 0));
        Bound.of("ticket cell", 0, 47, v -> x.ticket(0, v));
        Check.due("four were given", x.tickets(), 4);
    }

    /** "Also if there are not so many." */
    private static void ticketOf() {
        KeptHouse x = house();
        Check.illegalArgument("none is there", () -> x.ticketOf(0, 0));
        x.ticket(0, 0);
        x.ticket(0, 0);
        Bound.of("ticketOf k", 0, 1, v -> x.ticketOf(v, 0));
        Bound.of("ticketOf what", 0, 5, v -> x.ticketOf(0, v));
    }

    private static void tour() {
        KeptHouse x = house();
        Bound.of("tour worker", 0, 1, v -> x.tour(v));
    }

    private static void worker() {
        KeptHouse x = house();
        Bound.of("worker", 0, 1, v -> x.worker(v, 0));
        Bound.of("worker what", 0, 3, v -> x.worker(0, v));
    }

    private static void order() {
        KeptHouse x = house();
        Bound.of("order part", 0, 2, v -> x.order(v, 1));
        Bound.of("order n", 1, 9, v -> x.order(0, v));
    }

    private static void part() {
        KeptHouse x = house();
        Bound.of("part", 0, 2, v -> x.part(v, 0));
        Bound.of("part what", 0, 3, v -> x.part(0, v));
    }

    private static void meter() {
        KeptHouse x = house();
        Bound.of("meter flat", 0, 10, v -> x.meter(v, 0));
        Bound.of("meter what", 0, 2, v -> x.meter(0, v));
    }

    private static void account() {
        KeptHouse x = house();
        Bound.of("account flat", 0, 9, v -> x.account(v, 0));
        Bound.of("account what", 0, 1, v -> x.account(0, v));
    }

    private static void money() {
        KeptHouse x = house();
        Bound.of("money what", 0, 3, v -> x.money(v));
    }

    private static void pay() {
        KeptHouse x = house();
        Bound.of("pay flat", 0, 9, v -> x.pay(v, 5));
        Bound.of("pay cents", 1, 100000000, v -> x.pay(1, v));
        Check.due("both were paid", x.account(1, 0), 100000001);
        Check.due("cash", x.money(0), 100000011);
    }

    private static void crash() {
        KeptHouse x = house();
        Bound.of("crash n", NONE, 1000, v -> x.crash(v));
        Check.due("999 rows more are far", x.flat(0, 0, 1), 15);
    }

    private static void rows() {
        KeptHouse x = house();
        Bound.of("rows what", 0, 3, v -> x.rows(v));
    }

    private static void disk() {
        KeptHouse x = house();
        Bound.of("disk area", 0, 1, v -> x.disk(v, 0, 0));
        Bound.of("disk row", 0, 199, v -> x.disk(0, v, 0));
        Bound.of("disk i", 0, 47, v -> x.disk(0, 0, v));
    }

    /** "Illegal argument: it has none." */
    private static void tape() {
        KeptHouse x = house();
        Check.illegalArgument("empty", () -> x.tape(0));
        x.image();
        Bound.of("tape i of 6", 0, 5, v -> x.tape(v));
        x.flat(0, 0, 1);
        x.image();
        Bound.of("tape i of 36", 0, 35, v -> x.tape(v));
    }

    private static void feed() {
        KeptHouse x = house();
        Bound.of("feed b", 0, 255, v -> x.feed(v));
        Check.due("two were fed", x.empty(), 2);
    }

    private static void poke() {
        KeptHouse x = house();
        Check.illegalArgument("empty", () -> x.poke(0, 0));
        x.feed(1);
        x.feed(2);
        Bound.of("poke i", 0, 1, v -> x.poke(v, 3));
        Bound.of("poke b", 0, 255, v -> x.poke(1, v));
        Check.due("the last poke", x.poke(1, 0), 255);
    }
}
