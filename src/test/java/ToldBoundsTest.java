/** Boundary cases of what is told, and of the bytes that keep it (promises 14 to 20). */
public final class ToldBoundsTest {
    public static void main(String[] args) {
        flatsInHalfBytes();
        peopleByHours();
        weatherByTwelves();
        weatherBelowZero();
        sunByHours();
        ratingsAndRanks();
        prices();
        lives();
        peopleWithoutAHeart();
        hoursOfTheDay();
        sunByTens();
        cutIsNoWeather();
        eachIsCut();
        Check.end();
    }

    private static void row(String what, KeptHouse x, int kind, int index) {
        int row = x.rows(2) - 1;
        Check.due(what + ": kind", x.disk(0, row, 0), kind);
        Check.due(what + ": index", x.disk(0, row, 1), index);
        Check.due(what + ": last", x.disk(0, row, 2), 1);
    }

    private static int byteOf(KeptHouse x, int i) {
        return x.disk(0, x.rows(2) - 1, 12 + i);
    }

    /** "Cell c in the lower (c even) or higher four bits of byte c / 2": the first and the last two cells. */
    private static void flatsInHalfBytes() {
        KeptHouse x = new KeptHouse(0L);
        x.flat(0, 0, 9);
        row("cell 0", x, 2, 0);
        Check.due("lower bits", byteOf(x, 0), 0xF9);
        x.flat(0, 1, 0);
        Check.due("higher bits", byteOf(x, 0), 0x09);
        x.flat(4, 46, 7);
        row("storey 4", x, 2, 4);
        Check.due("cell 46", byteOf(x, 23), 0xF7);
        x.flat(4, 47, 1);
        Check.due("cell 47", byteOf(x, 23), 0x17);
        Check.due("nothing behind it", byteOf(x, 24), 0);
        Check.due("cell 0 of storey 4 is of none", byteOf(x, 0), 0xFF);
        Check.due("told the same, it is written all the same", x.flat(4, 47, 1), 1);
        Check.due("five rows", x.rows(2), 6);
    }

    private static void peopleByHours() {
        KeptHouse x = new KeptHouse(0L);
        Check.due("none at first", x.people(0, 0, 20), 0);
        row("flat 0", x, 3, 0);
        Check.due("hour 0", byteOf(x, 0), 20);
        Check.due("hour 1", byteOf(x, 1), 0);
        x.people(9, 23, 1);
        row("flat 9", x, 3, 9);
        Check.due("hour 23", byteOf(x, 23), 1);
        Check.due("hour 22", byteOf(x, 22), 0);
        Check.due("behind the hours", byteOf(x, 24), 0);
        Check.due("another flat's", x.people(8, 23, 2), 0);
        Check.due("another hour's", x.people(9, 22, 2), 0);
    }

    /** "A group with row 4, hour / 12": hours 0, 11, 12 and 23. */
    private static void weatherByTwelves() {
        KeptHouse x = new KeptHouse(0L);
        x.weather(0, 1);
        row("hour 0", x, 4, 0);
        Check.due("its place", byteOf(x, 0), 1);
        x.weather(11, 2);
        row("hour 11", x, 4, 0);
        Check.due("its place", byteOf(x, 22), 2);
        x.weather(12, 3);
        row("hour 12", x, 4, 1);
        Check.due("its place", byteOf(x, 0), 3);
        x.weather(23, 4);
        row("hour 23", x, 4, 1);
        Check.due("its place", byteOf(x, 22), 4);
        Check.due("nothing behind it", byteOf(x, 24), 0);
    }

    /** "Those that may be below 0 run over." */
    private static void weatherBelowZero() {
        int[] values = {-400, -1, 0, 255, 256, 500};
        for (int v : values) {
            KeptHouse x = new KeptHouse(0L);
            x.weather(5, v);
            Check.due("low byte of " + v, byteOf(x, 10), v & 255);
            Check.due("high byte of " + v, byteOf(x, 11), v >> 8 & 255);
            x.reopen();
            Check.due("read again", x.weather(5, 0), v);
        }
    }

    private static void sunByHours() {
        KeptHouse x = new KeptHouse(0L);
        x.sun(0, 0, 200);
        row("side 0", x, 5, 0);
        Check.due("hour 0", byteOf(x, 0), 200);
        x.sun(3, 23, 199);
        row("side 3", x, 5, 3);
        Check.due("hour 23", byteOf(x, 23), 199);
        Check.due("nothing behind it", byteOf(x, 24), 0);
        x.reopen();
        Check.due("side 0 again", x.sun(0, 0, 0), 200);
        Check.due("side 3 again", x.sun(3, 23, 0), 199);
        Check.due("no other", x.sun(3, 22, 0), 0);
    }

    /** "A group with rows 7, 0 and 1." */
    private static void ratingsAndRanks() {
        KeptHouse x = new KeptHouse(0L);
        Check.due("100 at first", x.rate(10, 500, 9), 100);
        Check.due("two rows", x.rows(2), 3);
        Check.due("7, 0", x.disk(0, 1, 0) * 256 + x.disk(0, 1, 1), 7 * 256);
        Check.due("not last", x.disk(0, 1, 2), 0);
        row("7, 1", x, 7, 1);
        Check.due("the last rating", x.disk(0, 1, 12 + 20) + 256 * x.disk(0, 1, 12 + 21), 500);
        Check.due("the first rating", x.disk(0, 1, 12) + 256 * x.disk(0, 1, 13), 100);
        Check.due("behind ratings", x.disk(0, 1, 12 + 22), 0);
        Check.due("the last rank", byteOf(x, 10), 9);
        Check.due("the first rank", byteOf(x, 0), 0);
        Check.due("behind ranks", byteOf(x, 11), 0);
        Check.due("what it had", x.rate(10, 1, 0), 500);
        x.reopen();
        Check.due("kept", x.circuit(10, 4), 1);
        Check.due("rank", x.circuit(10, 5), 0);
        Check.due("of others", x.circuit(9, 4), 100);
    }

    private static void prices() {
        KeptHouse x = new KeptHouse(0L);
        x.price(0, 20000);
        row("cap", x, 10, 0);
        Check.due("low", byteOf(x, 8), 20000 & 255);
        Check.due("high", byteOf(x, 9), 20000 >> 8);
        x.price(3, 1000);
        Check.due("water, low", byteOf(x, 20), 1000 & 255);
        Check.due("water, high", byteOf(x, 21), 1000 >> 8);
        Check.due("behind it", byteOf(x, 24), 0);
        x.reopen();
        Check.due("cap again", x.price(0, 0), 20000);
        Check.due("water again", x.price(3, 0), 1000);
        Check.due("gas: 0 at first", x.price(1, 1), 0);
        Check.due("power: 0 at first", x.price(2, 1), 0);
    }

    private static void lives() {
        KeptHouse x = new KeptHouse(0L);
        x.life(2, 100000);
        row("part 2", x, 11, 2);
        Check.due("third byte", byteOf(x, 2), 1);
        x.life(0, 1);
        row("part 0", x, 11, 0);
        x.reopen();
        Check.due("part 2 again", x.part(2, 0), 100000);
        Check.due("part 1", x.part(1, 0), 5000);
        Check.due("part 0 again", x.part(0, 0), 1);
    }

    /** PEOPLE: "none if it has no heart", though they are told. */
    private static void peopleWithoutAHeart() {
        KeptHouse x = new KeptHouse(Told.seed(0, 20, true));
        Told.people(x, 0, 20);
        x.run(1);
        Check.due("no load", x.circuit(0, 0), 0);
        Check.due("no water", x.meter(0, 2), 0);
        Check.due("no stale air", x.cell(0, 0, 1), 0);
        Check.due("they are told all the same", x.people(0, 0, 20), 20);
        x.flat(0, 0, 0);
        x.run(1);
        Check.due("now they are there", x.circuit(0, 0), 300 + 288);
    }

    /** PEOPLE and weather of an hour hold from its first minute to its last. */
    private static void hoursOfTheDay() {
        KeptHouse x = new KeptHouse(0L);
        x.flat(0, 0, 0);
        x.people(0, 1, 1);
        x.people(0, 23, 2);
        Told.program(x, "l=0;");
        int[] times = {8, 9, 10, 19, 20, 229, 230, 239, 240, 249, 250};
        int[] people = {0, 0, 1, 1, 0, 0, 2, 2, 0, 0, 1};
        for (int i = 0; i < times.length; i++) {
            Told.runTo(x, times[i] + 1);
            Check.due("load in the minute " + times[i], x.circuit(0, 0), 15 * people[i]);
        }
    }

    /** "Each GLASS edge at the border brings the SUN of its side and hour by 10." */
    private static void sunByTens() {
        int[] suns = {0, 9, 10, 19, 20, 199, 200};
        for (int sun : suns) {
            KeptHouse x = new KeptHouse(0L);
            x.edit(0, 0, 0, 2, 9, 3);
            x.merge(0);
            x.weather(0, 180);
            x.sun(0, 0, sun);
            x.run(1);
            Check.due("sun of " + sun, Told.sum(x, 0, 0), 864000 + 2 * (sun / 10));
            Check.due("not in another storey", Told.sum(x, 1, 0), 864000);
        }
        KeptHouse y = new KeptHouse(0L);
        y.weather(0, 180);
        y.sun(0, 0, 200);
        y.run(1);
        Check.due("none through HEAVY", Told.sum(y, 0, 0), 864000);
    }

    private static void cutIsNoWeather() {
        KeptHouse x = new KeptHouse(0L);
        x.weather(3, -400);
        x.crash(0);
        Check.due("cut", x.weather(3, 1), -1001);
        x.reopen();
        Check.due("as it was", x.weather(3, 1), -400);
    }

    /** Each of these calls answers CUT when its group is not whole, and is then not told. */
    private static void eachIsCut() {
        KeptHouse x = new KeptHouse(0L);
        x.crash(0);
        Check.due("flat", x.flat(0, 0, 1), KeptHouse.CUT);
        x.reopen();
        x.crash(0);
        Check.due("people", x.people(0, 0, 1), KeptHouse.CUT);
        x.reopen();
        x.crash(0);
        Check.due("sun", x.sun(0, 0, 1), KeptHouse.CUT);
        x.reopen();
        x.crash(1);
        Check.due("rate in its second row", x.rate(0, 1, 1), KeptHouse.CUT);
        x.reopen();
        x.crash(0);
        Check.due("price", x.price(0, 1), KeptHouse.CUT);
        x.reopen();
        x.crash(0);
        Check.due("life", x.life(0, 1), KeptHouse.CUT);
        x.reopen();
        Check.due("no keys", x.rows(3), 0);
        Check.due("flat then", x.flat(0, 0, 1), 15);
        Check.due("people then", x.people(0, 0, 1), 0);
        Check.due("sun then", x.sun(0, 0, 1), 0);
        Check.due("rate then", x.rate(0, 1, 1), 100);
        Check.due("price then", x.price(0, 1), 5000);
        Check.due("life then", x.life(0, 1), 5000);
    }
}
