/** While the store is DOWN each call but isDown() and reopen() throws illegal state, before all else. */
public final class DownTest {
    public static void main(String[] args) {
        KeptHouse x = new KeptHouse(0L);
        x.crash(0);
        x.flat(0, 0, 0);
        plan(x);
        told(x);
        minutes(x);
        access(x);
        care(x);
        storeAndTape(x);
        Check.due("still down", x.isDown(), true);
        Check.due("reopen", x.reopen(), 0);
        Check.due("up", x.isDown(), false);
        Check.due("nothing was told", x.flat(0, 0, 1), 15);
        Check.end();
    }

    private static void plan(KeptHouse x) {
        Check.illegalState("take", () -> x.take(-1));
        Check.illegalState("edit", () -> x.edit(-1, 0, 0, 0, 0, 0));
        Check.illegalState("merge", () -> x.merge(-1));
        Check.illegalState("conflict", () -> x.conflict(-1, 0));
        Check.illegalState("settle", () -> x.settle(-1, 0, true));
        Check.illegalState("edge", () -> x.edge(-1, 0));
        Check.illegalState("draft", () -> x.draft(-1, 0, 0));
        Check.illegalState("version", () -> x.version());
        Check.illegalState("spaces", () -> x.spaces());
        Check.illegalState("space", () -> x.space(-1, 0));
        Check.illegalState("spaceAt", () -> x.spaceAt(-1, 0));
        Check.illegalState("between", () -> x.between(-1, 0, 0));
    }

    private static void told(KeptHouse x) {
        Check.illegalState("flat", () -> x.flat(-1, 0, 0));
        Check.illegalState("people", () -> x.people(-1, 0, 0));
        Check.illegalState("weather", () -> x.weather(-1, 0));
        Check.illegalState("sun", () -> x.sun(-1, 0, 0));
        Check.illegalState("rate", () -> x.rate(-1, 0, 0));
        Check.illegalState("price", () -> x.price(-1, 0));
        Check.illegalState("life", () -> x.life(-1, 0));
        Check.illegalState("type", () -> x.type(-1));
        Check.illegalState("wipe", () -> x.wipe());
        Check.illegalState("load", () -> x.load());
        Check.illegalState("fault", () -> x.fault(-1));
        Check.illegalState("target", () -> x.target(-1));
    }

    private static void minutes(KeptHouse x) {
        Check.illegalState("run", () -> x.run(-1));
        Check.illegalState("mains", () -> x.mains(true));
        Check.illegalState("fuel", () -> x.fuel(-1));
        Check.illegalState("reset", () -> x.reset(-1));
        Check.illegalState("circuit", () -> x.circuit(-1, 0));
        Check.illegalState("state", () -> x.state(-1));
        Check.illegalState("cell", () -> x.cell(-1, 0, 0));
        Check.illegalState("ignite", () -> x.ignite(-1, 0));
        Check.illegalState("detected", () -> x.detected(-1));
        Check.illegalState("alarms", () -> x.alarms());
        Check.illegalState("alarm", () -> x.alarm(-1, 0));
    }

    private static void access(KeptHouse x) {
        Check.illegalState("door", () -> x.door(-1, 0));
        Check.illegalState("card", () -> x.card(-1, 0, 0, 0, true));
        Check.illegalState("go", () -> x.go(-1, 0));
        Check.illegalState("place", () -> x.place(-1));
        Check.illegalState("inside", () -> x.inside(-1));
        Check.illegalState("log", () -> x.log(-1, 0));
        Check.illegalState("point", () -> x.point(-1, 0, 0));
        Check.illegalState("trend", () -> x.trend(-1, 0));
    }

    private static void care(KeptHouse x) {
        Check.illegalState("ticket", () -> x.ticket(-1, 0));
        Check.illegalState("tickets", () -> x.tickets());
        Check.illegalState("ticketOf", () -> x.ticketOf(-1, 0));
        Check.illegalState("tour", () -> x.tour(-1));
        Check.illegalState("worker", () -> x.worker(-1, 0));
        Check.illegalState("order", () -> x.order(-1, 0));
        Check.illegalState("part", () -> x.part(-1, 0));
        Check.illegalState("meter", () -> x.meter(-1, 0));
        Check.illegalState("account", () -> x.account(-1, 0));
        Check.illegalState("money", () -> x.money(-1));
        Check.illegalState("pay", () -> x.pay(-1, 0));
    }

    private static void storeAndTape(KeptHouse x) {
        Check.illegalState("crash", () -> x.crash(-2));
        Check.illegalState("rows", () -> x.rows(-1));
        Check.illegalState("disk", () -> x.disk(-1, 0, 0));
        Check.illegalState("image", () -> x.image());
        Check.illegalState("tape", () -> x.tape(-1));
        Check.illegalState("feed", () -> x.feed(-1));
        Check.illegalState("copy", () -> x.copy());
        Check.illegalState("poke", () -> x.poke(-1, 0));
        Check.illegalState("empty", () -> x.empty());
        Check.illegalState("put", () -> x.put());
    }
}
