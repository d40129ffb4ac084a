/** Promises 14 to 20: what is told. Each is durable: it is there when the house begins anew. */
public final class ToldTest {
    public static void main(String[] args) {
        flats();
        people();
        weather();
        sun();
        ratings();
        prices();
        lives();
        wrongArguments();
        cuts();
        Check.end();
    }

    private static void flats() {
        KeptHouse x = new KeptHouse(0L);
        Check.due("none before", x.flat(2, 0, 9), 15);
        Check.due("what it was", x.flat(2, 0, 3), 9);
        Check.due("an odd cell", x.flat(2, 47, 0), 15);
        Check.due("the space's", x.space(2, 3), 3);
        Check.due("a group each", x.rows(2), 4);
        Check.due("kind", x.disk(0, 3, 0), 2);
        Check.due("index", x.disk(0, 3, 1), 2);
        Check.due("last", x.disk(0, 3, 2), 1);
        Check.due("cells 0 and 1", x.disk(0, 3, 12), 0xF3);
        Check.due("cells 46 and 47", x.disk(0, 3, 12 + 23), 0x0F);
        Check.due("behind", x.disk(0, 3, 12 + 24), 0);
        x.reopen();
        Check.due("kept", x.flat(2, 0, 15), 3);
        Check.due("kept, too", x.flat(2, 47, 15), 0);
        Check.due("none again", x.space(2, 3), 15);
    }

    private static void people() {
        KeptHouse x = new KeptHouse(0L);
        Check.due("none", x.people(9, 23, 20), 0);
        Check.due("what they were", x.people(9, 23, 7), 20);
        Check.due("another hour", x.people(9, 22, 1), 0);
        Check.due("kind", x.disk(0, 3, 0), 3);
        Check.due("index", x.disk(0, 3, 1), 9);
        Check.due("hour 22", x.disk(0, 3, 12 + 22), 1);
        Check.due("hour 23", x.disk(0, 3, 12 + 23), 7);
        x.reopen();
        Check.due("kept", x.people(9, 23, 0), 7);
    }

    private static void weather() {
        KeptHouse x = new KeptHouse(0L);
        Check.due("0 at first", x.weather(11, -400), 0);
        Check.due("what it was", x.weather(11, 500), -400);
        Check.due("a later hour", x.weather(12, -2), 0);
        Check.due("kind", x.disk(0, 3, 0), 4);
        Check.due("hour by 12", x.disk(0, 3, 1), 1);
        Check.due("low byte", x.disk(0, 3, 12), 0xFE);
        Check.due("high byte", x.disk(0, 3, 13), 0xFF);
        Check.due("hour 11 low", x.disk(0, 2, 12 + 22), 500 % 256);
        Check.due("hour 11 high", x.disk(0, 2, 12 + 23), 500 / 256);
        x.reopen();
        Check.due("kept", x.weather(11, 0), 500);
        Check.due("kept below 0", x.weather(12, 0), -2);
    }

    private static void sun() {
        KeptHouse x = new KeptHouse(0L);
        Check.due("0 at first", x.sun(3, 0, 200), 0);
        Check.due("what it was", x.sun(3, 0, 5), 200);
        Check.due("kind", x.disk(0, 2, 0), 5);
        Check.due("index", x.disk(0, 2, 1), 3);
        Check.due("hour 0", x.disk(0, 2, 12), 5);
        x.reopen();
        Check.due("kept", x.sun(3, 0, 0), 5);
        Check.due("another side", x.sun(2, 0, 0), 0);
    }

    private static void ratings() {
        KeptHouse x = new KeptHouse(0L);
        Check.due("100 at first", x.rate(10, 500, 9), 100);
        Check.due("what it was", x.rate(10, 257, 4), 500);
        Check.due("another", x.rate(0, 1, 0), 100);
        Check.due("rating", x.circuit(10, 4), 257);
        Check.due("rank", x.circuit(10, 5), 4);
        Check.due("two rows a group", x.rows(2), 7);
        Check.due("kind", x.disk(0, 5, 0), 7);
        Check.due("index 0", x.disk(0, 5, 1), 0);
        Check.due("not last", x.disk(0, 5, 2), 0);
        Check.due("low", x.disk(0, 5, 12 + 20), 1);
        Check.due("high", x.disk(0, 5, 12 + 21), 1);
        Check.due("index 1", x.disk(0, 6, 1), 1);
        Check.due("last", x.disk(0, 6, 2), 1);
        Check.due("rank's byte", x.disk(0, 6, 12 + 10), 4);
        x.reopen();
        Check.due("kept", x.circuit(10, 4), 257);
        Check.due("kept rank", x.circuit(10, 5), 4);
        Check.due("kept, too", x.circuit(0, 4), 1);
    }

    private static void prices() {
        KeptHouse x = new KeptHouse(0L);
        Check.due("cap", x.price(0, 20000), 5000);
        Check.due("cap again", x.price(0, 0), 20000);
        Check.due("gas", x.price(1, 1000), 0);
        Check.due("power", x.price(2, 999), 0);
        Check.due("water", x.price(3, 3), 0);
        Check.due("kind", x.disk(0, 5, 0), 10);
        Check.due("price of gas, low", x.disk(0, 5, 12 + 12), 1000 % 256);
        Check.due("price of gas, high", x.disk(0, 5, 12 + 13), 1000 / 256);
        Check.due("price of water", x.disk(0, 5, 12 + 20), 3);
        x.reopen();
        Check.due("kept cap", x.price(0, 1), 0);
        Check.due("kept gas", x.price(1, 1), 1000);
        Check.due("kept power", x.price(2, 1), 999);
        Check.due("kept water", x.price(3, 1), 3);
    }

    private static void lives() {
        KeptHouse x = new KeptHouse(0L);
        Check.due("5000 at first", x.life(2, 100000), 5000);
        Check.due("what it was", x.life(2, 1), 100000);
        Check.due("part", x.part(2, 0), 1);
        Check.due("kind", x.disk(0, 2, 0), 11);
        Check.due("index", x.disk(0, 2, 1), 2);
        x.reopen();
        Check.due("kept", x.part(2, 0), 1);
        Check.due("others", x.part(0, 0), 5000);
    }

    private static void wrongArguments() {
        KeptHouse x = new KeptHouse(0L);
        Check.illegalArgument("flat storey", () -> x.flat(5, 0, 0));
        Check.illegalArgument("flat cell", () -> x.flat(0, 48, 0));
        Check.illegalArgument("flat 10", () -> x.flat(0, 0, 10));
        Check.illegalArgument("flat 14", () -> x.flat(0, 0, 14));
        Check.illegalArgument("flat 16", () -> x.flat(0, 0, 16));
        Check.illegalArgument("flat -1", () -> x.flat(0, 0, -1));
        Check.illegalArgument("people flat 10", () -> x.people(10, 0, 0));
        Check.illegalArgument("people hour 24", () -> x.people(0, 24, 0));
        Check.illegalArgument("people 21", () -> x.people(0, 0, 21));
        Check.illegalArgument("people -1", () -> x.people(0, 0, -1));
        Check.illegalArgument("weather hour", () -> x.weather(24, 0));
        Check.illegalArgument("weather -401", () -> x.weather(0, -401));
        Check.illegalArgument("weather 501", () -> x.weather(0, 501));
        Check.illegalArgument("sun side", () -> x.sun(4, 0, 0));
        Check.illegalArgument("sun hour", () -> x.sun(0, -1, 0));
        Check.illegalArgument("sun 201", () -> x.sun(0, 0, 201));
        Check.illegalArgument("sun -1", () -> x.sun(0, 0, -1));
        Check.illegalArgument("rate circuit", () -> x.rate(11, 1, 0));
        Check.illegalArgument("rating 0", () -> x.rate(0, 0, 0));
        Check.illegalArgument("rating 501", () -> x.rate(0, 501, 0));
        Check.illegalArgument("rank 10", () -> x.rate(0, 1, 10));
        Check.illegalArgument("rank -1", () -> x.rate(0, 1, -1));
        Check.illegalArgument("price what", () -> x.price(4, 0));
        Check.illegalArgument("cap 20001", () -> x.price(0, 20001));
        Check.illegalArgument("price 1001", () -> x.price(1, 1001));
        Check.illegalArgument("price -1", () -> x.price(3, -1));
        Check.illegalArgument("life part", () -> x.life(3, 1));
        Check.illegalArgument("life 0", () -> x.life(0, 0));
        Check.illegalArgument("life 100001", () -> x.life(0, 100001));
        Check.due("nothing was written", x.rows(2), 1);
    }

    /** A group that is cut is not durable; that before it is. */
    private static void cuts() {
        KeptHouse x = new KeptHouse(0L);
        x.crash(1);
        Check.due("whole", x.flat(0, 0, 4), 15);
        Check.due("flat", x.flat(0, 0, 5), KeptHouse.CUT);
        Check.due("one row counts", x.reopen(), 1);
        Check.due("flat before", x.space(0, 3), 4);
        x.crash(0);
        Check.due("people", x.people(0, 0, 1), KeptHouse.CUT);
        x.reopen();
        x.crash(0);
        Check.due("weather", x.weather(0, 1), KeptHouse.CUT);
        x.reopen();
        x.crash(0);
        Check.due("sun", x.sun(0, 0, 1), KeptHouse.CUT);
        x.reopen();
        x.crash(1);
        Check.due("rate", x.rate(0, 1, 1), KeptHouse.CUT);
        Check.due("half a group", x.reopen(), 1);
        Check.due("rating as before", x.circuit(0, 4), 100);
        x.crash(0);
        Check.due("price", x.price(1, 1), KeptHouse.CUT);
        x.reopen();
        x.crash(0);
        Check.due("life", x.life(0, 1), KeptHouse.CUT);
        Check.due("still one row", x.reopen(), 1);
        Check.due("life as before", x.life(0, 7), 5000);
    }
}
