import java.util.Arrays;

/** What is durable is told back by its row, whole, when the house begins anew. */
public final class KeptTest {
    public static void main(String[] args) {
        flatsOfAllCells();
        programKept();
        cardsAndDoorsKept();
        pointsKept();
        ticketsKept();
        pricesKept();
        wearKept();
        dayKept();
        nothingKept();
        groupOfTheDayAlone();
        volatileStates();
        cutBytes();
        generations();
        programAfterFaults();
        Check.end();
    }

    private static void flatsOfAllCells() {
        KeptHouse x = new KeptHouse(0L);
        for (int cell = 0; cell < 48; cell++) {
            x.flat(3, cell, cell % 7 == 6 ? 15 : cell % 7 + cell % 3);
        }
        x.reopen();
        for (int cell = 0; cell < 48; cell++) {
            Check.due("flat of " + cell, x.flat(3, cell, 0), cell % 7 == 6 ? 15 : cell % 7 + cell % 3);
        }
    }

    /** A text over three rows. */
    private static void programKept() {
        KeptHouse x = new KeptHouse(0L);
        String text = "s0=100+1+1+1+1+1+1+1+1+1+1+1;   s1=100+2*3*4;    v = 7 ;";
        Told.program(x, text);
        for (int i = 0; i < 84; i++) {
            int row = 1 + i / 28;
            Check.due("character " + i, x.disk(0, row, 12 + i % 28), i < text.length() ? text.charAt(i) : 0);
        }
        Check.due("length", x.disk(0, 8, 12), text.length());
        Check.due("nothing behind it", x.disk(0, 8, 13), 0);
        x.reopen();
        x.run(1);
        Check.due("s0", x.target(0), 111);
        Check.due("s1", x.target(1), 124);
        Check.due("v", x.target(13), 7);
    }

    private static void cardsAndDoorsKept() {
        KeptHouse x = new KeptHouse(0L);
        x.door(0, 18);
        x.door(3, 4);
        x.door(0, 53);
        x.card(0, 1, 3, 5, false);
        x.card(1, 1, 0, 0, true);
        x.card(2, 4, 22, 0, false);
        x.card(3, 5, 5, 2, false);
        x.reopen();
        Check.due("not its hour", x.go(0, 0), 2);
        Check.due("blocked", x.go(1, 0), 3);
        Check.due("no right", x.go(2, 0), 1);
        Check.due("its right", x.go(2, 2), 0);
        Check.due("line 5, column 7", x.place(2), 47);
        Check.due("hours over midnight", x.go(3, 0), 0);
        Check.due("line 2, column 0", x.place(3), 16);
        Check.due("a door of storey 3", x.go(3, 1), 4);
        x.run(30);
        Check.due("from 3 on", x.go(0, 0), 0);
        x.run(30);
        Check.due("up to 5", x.go(0, 0), 2);
    }

    private static void pointsKept() {
        KeptHouse x = new KeptHouse(0L);
        x.flat(0, 0, 7);
        x.people(7, 0, 1);
        x.rate(7, 500, 0);
        x.point(3, 2, 7);
        x.point(4, 2, 10);
        x.point(5, 5, 0);
        x.reopen();
        x.run(10);
        Check.due("circuit 7", x.trend(3, 0), 15 + 6 * 48);
        Check.due("circuit 10", x.trend(4, 0), 55);
        Check.due("charge", x.trend(5, 0), 1800);
    }

    private static void ticketsKept() {
        KeptHouse x = new KeptHouse(0L);
        x.run(120);
        x.run(120);
        x.run(77);
        x.ticket(2, 3);
        x.ticket(4, 45);
        x.reopen();
        long[] first = {0, 2, 3, 3, 317, KeptHouse.NONE};
        long[] second = {1, 4, 45, 3, 317, KeptHouse.NONE};
        for (int what = 0; what < 6; what++) {
            Check.due("first, what " + what, x.ticketOf(0, what), first[what]);
            Check.due("second, what " + what, x.ticketOf(1, what), second[what]);
        }
    }

    private static void pricesKept() {
        KeptHouse x = new KeptHouse(0L);
        x.price(0, 1234);
        x.price(1, 11);
        x.price(2, 22);
        x.price(3, 33);
        x.reopen();
        Check.due("cap", x.price(0, 0), 1234);
        Check.due("gas", x.price(1, 0), 11);
        Check.due("power", x.price(2, 0), 22);
        Check.due("water", x.price(3, 0), 33);
    }

    private static void wearKept() {
        KeptHouse x = new KeptHouse(0L);
        x.flat(0, 0, 0);
        x.life(0, 70000);
        x.run(120);
        x.run(120);
        int wear = x.part(0, 1);
        Check.due("it wore", wear > 100, true);
        x.run(5);
        x.reopen();
        Check.due("as the day ended", x.part(0, 1), wear);
        Check.due("life", x.part(0, 0), 70000);
        Check.due("the pump's", x.part(1, 1), 0);
    }

    /** All meters and moneys of a day, in their bytes and back. */
    private static void dayKept() {
        KeptHouse x = new KeptHouse(99L);
        Image image = new Image();
        for (int storey = 0; storey < 4; storey++) {
            image.key(2, storey, flatOfCellZero(storey));
        }
        for (int flat = 0; flat < 4; flat++) {
            int[] people = new int[24];
            Arrays.fill(people, 2 + flat);
            image.key(3, flat, people);
        }
        image.key(9, 0, Image.join(Image.numbers(4, 2395), Image.numbers(8, 123456789012L, 98765432101L),
                Image.numbers(4, 12345, 54321))).feed(x);
        Check.due("put", x.put(), 0);
        x.price(1, 77);
        x.run(5);
        Check.due("a bill", x.account(2, 1) > 0, true);
        x.run(120);
        x.run(120);
        x.pay(3, 99999);
        int row = x.rows(2) - 2;
        Check.due("its row", x.disk(x.rows(0), row, 0), 8);
        long[][] before = all(x);
        x.run(1);
        x.reopen();
        long[][] after = all(x);
        for (int flat = 0; flat < 11; flat++) {
            for (int what = 0; what < 5; what++) {
                Check.due("what " + what + " of " + flat, after[flat][what], before[flat][what]);
            }
        }
        for (int what = 0; what < 4; what++) {
            Check.due("money " + what, after[11][what], before[11][what]);
        }
        Check.due("the house's heat is there", after[10][0] > 256, true);
        Check.due("heat of a flat is there", after[1][0] > 256, true);
        Check.due("lost is there", x.money(1), 98765432101L);
    }

    private static int[] flatOfCellZero(int flat) {
        int[] bytes = new int[24];
        Arrays.fill(bytes, 0xFF);
        bytes[0] = 0xF0 | flat;
        return bytes;
    }

    private static long[][] all(KeptHouse x) {
        long[][] all = new long[12][5];
        for (int flat = 0; flat < 11; flat++) {
            for (int what = 0; what < 3; what++) {
                all[flat][what] = x.meter(flat, what);
            }
            if (flat < 10) {
                all[flat][3] = x.account(flat, 0);
                all[flat][4] = x.account(flat, 1);
            }
        }
        for (int what = 0; what < 4; what++) {
            all[11][what] = x.money(what);
        }
        return all;
    }

    /** What no key tells is as at first, whatever was before. */
    private static void nothingKept() {
        KeptHouse x = new KeptHouse(0L);
        new Image().key(9, 0, Image.join(Image.numbers(4, 777), Image.numbers(8, 55, 66), Image.numbers(4, 7, 8)))
                .feed(x);
        x.put();
        x.pay(4, 44);
        x.rate(4, 44, 4);
        x.life(1, 44);
        x.weather(4, 44);
        x.sun(1, 4, 44);
        x.people(4, 4, 4);
        x.ticket(4, 44);
        x.door(4, 43);
        x.card(4, 4, 4, 4, false);
        x.point(4, 4, 0);
        x.price(1, 44);
        x.price(0, 44);
        x.edit(0, 4, 4, 6, 9, 3);
        x.merge(0);
        Told.program(x, "v=4;");
        new Image().feed(x);
        Check.due("put", x.put(), 0);
        Check.due("time", x.state(10), 0);
        Check.due("cash", x.money(0), 0);
        Check.due("lost", x.money(1), 0);
        Check.due("gas", x.money(2), 0);
        Check.due("care", x.money(3), 0);
        Check.due("balance", x.account(4, 0), 0);
        Check.due("rating", x.circuit(4, 4), 100);
        Check.due("rank", x.circuit(4, 5), 0);
        Check.due("life", x.part(1, 0), 5000);
        Check.due("tickets", x.tickets(), 0);
        Check.due("ticket number", x.ticket(0, 0), 0);
        Check.illegalArgument("card", () -> x.place(4));
        Check.due("doors", x.door(0, 0), 0);
        Check.due("edge", x.edge(4, 4), 0);
        Check.due("spaces", x.spaces(), 5);
        x.run(10);
        Check.illegalArgument("point", () -> x.trend(4, 0));
        Check.due("program", x.target(13), 1);
        Check.due("weather", x.weather(4, 0), 0);
        Check.due("sun", x.sun(1, 4, 0), 0);
        Check.due("people", x.people(4, 4, 0), 0);
        Check.due("cap", x.price(0, 0), 5000);
        Check.due("price", x.price(1, 0), 0);
    }

    /** No row of an earlier group comes again in that of the day. */
    private static void groupOfTheDayAlone() {
        KeptHouse x = new KeptHouse(0L);
        x.flat(0, 0, 15);
        x.run(120);
        x.run(120);
        Check.due("one row, and fifteen", x.rows(2), 17);
        Check.due("the first of them", x.disk(0, 2, 0), 8);
    }

    private static void volatileStates() {
        KeptHouse x = new KeptHouse(5L);
        for (int flat = 0; flat < 5; flat++) {
            x.flat(flat, 0, flat);
            Told.people(x, flat, 20);
            x.rate(flat, 500, 0);
        }
        x.rate(10, 500, 0);
        Told.program(x, "s0=300;");
        x.price(0, 100);
        for (int i = 0; i < 100 && x.state(8) == 0; i++) {
            x.run(1);
        }
        x.mains(false);
        x.run(3);
        Check.due("the pump is wanted", x.state(4), 1);
        x.reopen();
        for (int what = 4; what < 10; what++) {
            Check.due("state " + what, x.state(what), what == 5 ? 20000 : 0);
        }
        x.price(0, 100);
        x.run(1);
        Check.due("neither boiler nor pump before", x.circuit(10, 0), 25);
        x.life(0, 1);
        x.run(1);
        Check.due("failed", x.part(0, 3), 1);
        x.reopen();
        x.run(1);
        boolean noted = false;
        for (int k = 0; k < x.alarms(); k++) {
            noted = noted || x.alarm(k, 0) == 13 && x.alarm(k, 1) == 0;
        }
        Check.due("no alarm was on before", noted, true);
    }

    /** Of a cut row bytes 0 .. 23 are written: hours 0 .. 11. */
    private static void cutBytes() {
        KeptHouse x = new KeptHouse(0L);
        x.people(0, 11, 5);
        x.people(0, 12, 6);
        x.reopen();
        x.people(0, 11, 7);
        x.crash(0);
        x.people(0, 12, 8);
        x.reopen();
        Check.due("hour 11", x.disk(0, 4, 23), 7);
        Check.due("hour 12", x.disk(0, 4, 24), 0);
        Check.due("cut", x.disk(0, 4, 3), 1);
        Check.due("index", x.disk(0, 4, 1), 0);
    }

    /** A generation that only a cut row tells is not used again. */
    private static void generations() {
        KeptHouse x = new KeptHouse(0L);
        x.flat(0, 0, 1);
        x.image();
        x.copy();
        x.crash(0);
        Check.due("the first row of a snapshot is cut", x.put(), KeptHouse.CUT);
        x.reopen();
        Check.due("generation in row 1", x.disk(1, 1, 8), 2);
        Check.due("none in row 0", x.disk(1, 0, 8), 0);
        x.image();
        x.copy();
        Check.due("put", x.put(), 0);
        Check.due("the next", x.rows(1), 3);
        KeptHouse y = new KeptHouse(0L);
        new Image().feed(y);
        y.crash(0);
        Check.due("the head alone is cut", y.put(), KeptHouse.CUT);
        y.reopen();
        Check.due("generation in row 0", y.disk(1, 0, 8), 2);
        Check.due("none in row 1", y.disk(1, 1, 8), 0);
        new Image().feed(y);
        Check.due("put", y.put(), 0);
        Check.due("the next, too", y.rows(1), 3);
    }

    /** A text or an image with a fault leaves the program as it was. */
    private static void programAfterFaults() {
        KeptHouse x = new KeptHouse(0L);
        Told.program(x, "s0=111;v=v+1;");
        x.run(1);
        x.wipe();
        for (char c : "s0=222;q".toCharArray()) {
            x.type(c);
        }
        Check.due("wrong", x.load(), KeptHouse.WRONG);
        Check.due("targets stay", x.target(0), 111);
        x.run(1);
        Check.due("the program stays", x.target(0), 111);
        Check.due("it runs on", x.target(13), 3);
        int[] text = new int[7];
        for (int i = 0; i < 7; i++) {
            text[i] = "s0=99;l".charAt(i);
        }
        new Image().key(6, 0, text).key(6, 7, 7).feed(x);
        Check.due("a fault", x.put(), 4);
        x.run(1);
        Check.due("still the program", x.target(0), 111);
        Check.due("still running on", x.target(13), 4);
        Check.due("the fault is that of the text", x.fault(1), 7);
    }
}
