/** Promises 61 to 67: the tape, the reel, and images that are put in. */
public final class TapeTest {
    public static void main(String[] args) {
        emptyImage();
        images();
        reel();
        copying();
        fullReel();
        puttingBack();
        formFaults();
        keyFaults();
        planBounds();
        toldBounds();
        programBounds();
        bookBounds();
        careBounds();
        accessBounds();
        putIsCut();
        putOfNothing();
        wrongArguments();
        Check.end();
    }

    private static void emptyImage() {
        KeptHouse x = new KeptHouse(0L);
        Check.illegalArgument("empty at first", () -> x.tape(0));
        Check.due("six bytes", x.image(), 6);
        int[] want = new Image().bytes();
        for (int i = 0; i < 6; i++) {
            Check.due("byte " + i, x.tape(i), want[i]);
        }
        Check.illegalArgument("no seventh", () -> x.tape(6));
    }

    private static void images() {
        KeptHouse x = new KeptHouse(0L);
        x.card(39, 0x8765, 1, 2, true);
        x.weather(13, -1);
        x.people(3, 23, 9);
        Check.due("three keys", x.image(), 96);
        int[] people = new int[24];
        people[23] = 9;
        int[] want = new Image().key(3, 3, people).key(4, 1, 0, 0, 255, 255)
                .key(14, 39, 1, 1, 2, 1, 0x65, 0x87).bytes();
        for (int i = 0; i < 96; i++) {
            Check.due("byte " + i, x.tape(i), want[i]);
        }
        x.people(3, 23, 8);
        Check.due("it is as it was", x.tape(2 + 2 + 23), 9);
        x.image();
        Check.due("now it is anew", x.tape(2 + 2 + 23), 8);
        x.run(120);
        x.run(119);
        Check.due("what was written last", x.image(), 96);
        x.run(1);
        Check.due("with the day's keys", x.image(), 96 + 15 * 30);
        x.reopen();
        Check.illegalArgument("empty anew", () -> x.tape(0));
    }

    private static void reel() {
        KeptHouse x = new KeptHouse(0L);
        Check.due("first", x.feed(255), 1);
        Check.due("second", x.feed(0), 2);
        Check.due("poke", x.poke(0, 7), 255);
        Check.due("poked", x.poke(0, 8), 7);
        Check.illegalArgument("no third", () -> x.poke(2, 0));
        Check.illegalArgument("poke -1", () -> x.poke(-1, 0));
        Check.illegalArgument("poke 256", () -> x.poke(0, 256));
        Check.illegalArgument("poke of -1", () -> x.poke(0, -1));
        Check.due("empty", x.empty(), 2);
        Check.due("empty again", x.empty(), 0);
        Check.illegalArgument("none", () -> x.poke(0, 0));
        Check.illegalArgument("feed 256", () -> x.feed(256));
        Check.illegalArgument("feed -1", () -> x.feed(-1));
        x.feed(1);
        x.reopen();
        Check.due("empty anew", x.empty(), 0);
    }

    private static void copying() {
        KeptHouse x = new KeptHouse(0L);
        Check.due("no tape", x.copy(), 0);
        x.flat(0, 0, 1);
        x.image();
        Check.due("36", x.copy(), 36);
        Check.due("behind", x.copy(), 72);
        Check.due("kind", x.poke(36 + 2, 1), 2);
    }

    private static void fullReel() {
        KeptHouse x = new KeptHouse(0L);
        for (int i = 0; i < 10; i++) {
            x.people(i, 0, 1);
        }
        Check.due("306", x.image(), 306);
        for (int i = 1; i <= 13; i++) {
            Check.due("copy " + i, x.copy(), 306 * i);
        }
        Check.due("as far as there is room", x.copy(), 4100);
        Check.due("byte by byte", x.poke(4099, 1), x.tape(4099 - 306 * 13));
        Check.due("no more", x.copy(), 4100);
        Check.illegalState("full", () -> x.feed(0));
        Check.illegalArgument("first its bounds", () -> x.feed(256));
        Check.due("4100", x.empty(), 4100);
        Check.due("room again", x.feed(0), 1);
    }

    /** All that is durable comes back. */
    private static void puttingBack() {
        KeptHouse x = new KeptHouse(0L);
        tellAll(x);
        x.image();
        x.copy();
        int keys = x.rows(3);
        int generation = x.rows(1);
        x.edit(0, 1, 1, 6, 9, 1);
        x.merge(0);
        x.flat(0, 0, 9);
        x.point(5, 3, 0);
        Check.due("put", x.put(), 0);
        Check.due("keys", x.rows(3), keys);
        Check.due("area", x.rows(0), 1);
        Check.due("generation", x.rows(1), generation + 1);
        Check.due("rows", x.rows(2), keys + 1);
        Check.due("begun anew", x.version(), 0);
        Check.due("reel is empty", x.empty(), 0);
        Check.illegalArgument("tape is empty", () -> x.tape(0));
        toldAll(x);
        x.run(10);
        Check.illegalArgument("not of the image", () -> x.trend(5, 0));
        Check.due("reopen", x.reopen(), keys);
        toldAll(x);
        Check.due("the image is the same", x.image(), 6 + 30 * keys);
        x.copy();
        Check.due("and can be put in", x.put(), 0);
        Check.due("in area 0", x.rows(0), 0);
        toldAll(x);
    }

    private static void tellAll(KeptHouse x) {
        x.edit(0, 0, 4, 6, 9, 3);
        x.merge(0);
        x.flat(0, 0, 1);
        x.people(1, 0, 2);
        x.weather(5, -77);
        x.sun(2, 4, 123);
        Told.program(x, "s1=123;");
        x.rate(9, 321, 7);
        x.pay(1, 1234567);
        x.price(2, 55);
        x.life(1, 777);
        x.ticket(3, 33);
        x.door(0, 102);
        x.card(12, 1, 2, 3, false);
        x.point(6, 5, 0);
    }

    private static void toldAll(KeptHouse x) {
        Check.due("plan", x.edge(0, 13), 3);
        Check.due("no other walls", x.edge(1, 1), 0);
        Check.due("draft", x.draft(1, 0, 13), 3);
        Check.due("flat", x.space(0, 3), 1);
        Check.due("balance", x.account(1, 0), 1234567);
        Check.due("cash", x.money(0), 1234567);
        Check.due("rating", x.circuit(9, 4), 321);
        Check.due("rank", x.circuit(9, 5), 7);
        Check.due("life", x.part(1, 0), 777);
        Check.due("tickets", x.tickets(), 1);
        Check.due("ticket", x.ticketOf(0, 2), 33);
        Check.due("card", x.place(12), KeptHouse.NONE);
        Check.due("door", x.go(12, 0), 2);
    }

    private static void fault(Image image, int want) {
        KeptHouse x = new KeptHouse(0L);
        x.flat(4, 0, 8);
        image.feed(x);
        Check.due("put", x.put(), want);
        if (want != 0) {
            Check.due("nothing is changed", x.space(4, 3), 8);
            Check.due("nothing is written", x.rows(2), 2);
            Check.due("the reel stays", x.empty(), image.bytes().length);
        } else {
            Check.due("of the image alone", x.space(4, 3), 15);
        }
    }

    private static Image one(int kind, int index, int... bytes) {
        return new Image().key(kind, index, bytes);
    }

    private static int putOf(int... bytes) {
        KeptHouse x = new KeptHouse(0L);
        Image.feed(x, bytes);
        return x.put();
    }

    private static void formFaults() {
        Check.due("nothing", putOf(), 1);
        Check.due("one byte", putOf(0), 1);
        Check.due("two bytes", putOf(0, 0), 1);
        Check.due("too long", putOf(0, 0, 0, 0, 0, 0, 0), 1);
        Check.due("a wrong sum", putOf(0, 0, 0, 0, 0, 0), 2);
        Check.due("a right one", putOf(new Image().bytes()), 0);
        int[] bytes = one(2, 0, 255).bytes();
        bytes[0] = 2;
        Check.due("two keys, bytes of one", putOf(bytes), 1);
        bytes[0] = 1;
        bytes[1] = 1;
        Check.due("257 keys", putOf(bytes), 1);
        bytes[1] = 0;
        bytes[10] ^= 1;
        Check.due("a bit", putOf(bytes), 2);
        bytes[2] = 16;
        Check.due("the sum before the kind", putOf(bytes), 2);
    }

    private static void keyFaults() {
        int[] counts = {5, 5, 10, 2, 4, 8, 2, 10, 1, 1, 3, 16, 20, 40, 8};
        for (int kind = 1; kind <= 15; kind++) {
            fault(one(kind, counts[kind - 1]), 3);
        }
        fault(one(0, 0), 3);
        fault(one(16, 0), 3);
        fault(one(255, 0), 3);
        fault(one(3, 255), 3);
        fault(one(3, 1).key(3, 0), 3);
        fault(one(3, 1).key(3, 1), 3);
        fault(one(3, 1).key(2, 1), 3);
        fault(one(3, 1).key(3, 2), 0);
        // The kinds of all keys come before the bounds of any.
        fault(one(3, 1, 21).key(16, 0), 3);
        fault(one(3, 1, 21), 4);
    }

    /** The edges of a storey as 28 bytes: border of one kind, inner ones of another. */
    private static int[] edges(int border, int inner) {
        int[] bytes = new int[28];
        for (int e = 0; e < 110; e++) {
            boolean isBorder = e < 54 ? e % 9 == 0 || e % 9 == 8 : e < 62 || e >= 102;
            bytes[e / 4] |= (isBorder ? border : inner) << 2 * (e % 4);
        }
        return bytes;
    }

    private static void planBounds() {
        fault(one(1, 0, edges(2, 0)), 0);
        fault(one(1, 4, edges(3, 0)), 0);
        fault(one(1, 0, edges(1, 0)), 4);
        fault(one(1, 0, edges(0, 0)), 4);
        fault(one(1, 0, edges(2, 1)), 4);
        int[] high = edges(2, 0);
        high[27] |= 16;
        fault(one(1, 0, high), 4);
        // Seven walls in each of five storeys make 40 spaces; a room more is one too many.
        int[] columns = edges(2, 0);
        for (int column = 1; column < 8; column++) {
            for (int line = 0; line < 6; line++) {
                int e = 9 * line + column;
                columns[e / 4] |= 1 << 2 * (e % 4);
            }
        }
        Image image = new Image();
        for (int storey = 0; storey < 5; storey++) {
            image.key(1, storey, columns);
        }
        fault(image, 0);
        int[] more = columns.clone();
        more[(54 + 8) / 4] |= 1 << 2 * ((54 + 8) % 4);
        Image full = new Image();
        for (int storey = 0; storey < 5; storey++) {
            full.key(1, storey, storey == 2 ? more : columns);
        }
        fault(full, 4);
        int[] flats = new int[24];
        java.util.Arrays.fill(flats, 0xFF);
        fault(one(2, 0, flats), 0);
        flats[23] = 0x9F;
        fault(one(2, 0, flats), 0);
        flats[23] = 0xAF;
        fault(one(2, 0, flats), 4);
        flats[23] = 0xFE;
        fault(one(2, 0, flats), 4);
        fault(one(2, 0, new int[24]), 0);
        fault(one(2, 0, Image.join(new int[24], new int[] {1})), 4);
    }

    private static void toldBounds() {
        fault(one(3, 9, Image.join(new int[23], new int[] {20})), 0);
        fault(one(3, 9, Image.join(new int[23], new int[] {21})), 4);
        fault(one(3, 9, Image.join(new int[24], new int[] {1})), 4);
        fault(one(4, 0, Image.numbers(2, -400, 500, 0)), 0);
        fault(one(4, 0, Image.numbers(2, -401)), 4);
        fault(one(4, 1, Image.numbers(2, 0, 0, 501)), 4);
        fault(one(4, 1, Image.join(new int[24], new int[] {1})), 4);
        fault(one(5, 3, 200), 0);
        fault(one(5, 3, 201), 4);
        fault(one(5, 3, Image.join(new int[27], new int[] {1})), 4);
        long[] ratings = {1, 500, 1, 1, 1, 1, 1, 1, 1, 1, 500};
        fault(one(7, 0, Image.numbers(2, ratings)), 0);
        fault(one(7, 0, Image.join(Image.numbers(2, ratings), new int[] {1})), 4);
        ratings[10] = 501;
        fault(one(7, 0, Image.numbers(2, ratings)), 4);
        ratings[10] = 0;
        fault(one(7, 0, Image.numbers(2, ratings)), 4);
        fault(one(7, 1, 9, 9, 9, 9, 9, 9, 9, 9, 9, 9, 9), 0);
        fault(one(7, 1, 9, 9, 9, 9, 9, 9, 9, 9, 9, 9, 10), 4);
        fault(one(7, 1, 0, 0, 0, 0, 0, 0, 0, 0, 0, 0, 0, 1), 4);
    }

    private static int[] codes(String text) {
        int[] all = new int[text.length()];
        for (int i = 0; i < all.length; i++) {
            all[i] = text.charAt(i);
        }
        return all;
    }

    private static void programBounds() {
        fault(one(6, 0, codes("l=1;")).key(6, 7, 4), 0);
        fault(one(6, 0, codes("l=1;")).key(6, 7, 3), 4);
        fault(one(6, 0, codes("l=1;")).key(6, 7, 5), 4);
        fault(one(6, 0, codes("l=1;")), 4);
        fault(one(6, 7, 4), 4);
        fault(one(6, 7, 0), 0);
        fault(one(6, 3), 0);
        fault(one(6, 0, codes("l=1;")).key(6, 7, 4, 1), 4);
        fault(one(6, 0, codes("l=q;")).key(6, 7, 4), 4);
        fault(one(6, 0, codes("l=1;\u007f")).key(6, 7, 5), 4);
        fault(one(6, 0, codes("l=1;\n")).key(6, 7, 5), 4);
        Image longest = new Image();
        for (int i = 0; i < 7; i++) {
            longest.key(6, i, codes(" ".repeat(28)));
        }
        fault(longest.key(6, 7, 196), 0);
        Image longer = new Image();
        for (int i = 0; i < 7; i++) {
            longer.key(6, i, codes(" ".repeat(28)));
        }
        fault(longer.key(6, 7, 197), 4);
        KeptHouse x = new KeptHouse(0L);
        one(6, 0, codes("s0=77;")).key(6, 7, 6).feed(x);
        Check.due("put", x.put(), 0);
        x.run(1);
        Check.due("the program is loaded", x.target(0), 77);
    }

    private static final long RICH = 1000000000000000L;

    private static int[] flatRow(long balance, long bill, long heat, long power, long water) {
        return Image.join(Image.numbers(8, balance, bill), Image.numbers(4, heat, power, water));
    }

    private static int[] cashRow(long time, long cash, long lost, long gas, long care) {
        return Image.join(Image.numbers(4, time), Image.numbers(8, cash, lost), Image.numbers(4, gas, care));
    }

    private static void bookBounds() {
        int most = 100000000;
        fault(one(8, 0, flatRow(RICH, -RICH, most, 0, most)), 0);
        fault(one(8, 0, flatRow(RICH + 1, 0, 0, 0, 0)), 4);
        fault(one(8, 0, flatRow(-RICH - 1, 0, 0, 0, 0)), 4);
        fault(one(8, 0, flatRow(0, RICH + 1, 0, 0, 0)), 4);
        fault(one(8, 0, flatRow(0, 0, most + 1, 0, 0)), 4);
        fault(one(8, 0, flatRow(0, 0, 0, -1, 0)), 4);
        fault(one(8, 0, flatRow(0, 0, 0, 0, most + 1)), 4);
        fault(one(9, 0, cashRow(1000000, -RICH, RICH, most, most)), 0);
        fault(one(9, 0, cashRow(1000001, 0, 0, 0, 0)), 4);
        fault(one(9, 0, cashRow(-1, 0, 0, 0, 0)), 4);
        fault(one(9, 0, cashRow(0, RICH + 1, 0, 0, 0)), 4);
        fault(one(9, 0, cashRow(0, 0, -RICH - 1, 0, 0)), 4);
        fault(one(9, 0, cashRow(0, 0, 0, most + 1, 0)), 4);
        fault(one(9, 0, cashRow(0, 0, 0, 0, -1)), 4);
        fault(one(10, 0, Image.numbers(4, most, most, 20000, 1000, 1000, 1000)), 0);
        fault(one(10, 0, Image.numbers(4, most + 1, 0, 0, 0, 0, 0)), 4);
        fault(one(10, 0, Image.numbers(4, 0, -1, 0, 0, 0, 0)), 4);
        fault(one(10, 0, Image.numbers(4, 0, 0, 20001, 0, 0, 0)), 4);
        fault(one(10, 0, Image.numbers(4, 0, 0, 0, 1001, 0, 0)), 4);
        fault(one(10, 0, Image.numbers(4, 0, 0, 0, 0, 1001, 0)), 4);
        fault(one(10, 0, Image.numbers(4, 0, 0, 0, 0, 0, -1)), 4);
        fault(one(10, 0, Image.numbers(4, 0, 0, 0, 0, 0, 0, 1)), 4);
    }

    private static int[] ticketRow(int there, int storey, int cell, int part, long... numbers) {
        return Image.join(new int[] {there, storey, cell, part}, Image.numbers(4, numbers));
    }

    private static void careBounds() {
        fault(one(11, 0, Image.numbers(4, 100000, 100000000, 99, 1)), 0);
        fault(one(11, 0, Image.numbers(4, 0, 0, 0, 0)), 4);
        fault(one(11, 0, Image.numbers(4, 100001, 0, 0, 0)), 4);
        fault(one(11, 0, Image.numbers(4, 1, 100000001, 0, 0)), 4);
        fault(one(11, 0, Image.numbers(4, 1, -1, 0, 0)), 4);
        fault(one(11, 0, Image.numbers(4, 1, 0, 100, 0)), 4);
        fault(one(11, 0, Image.numbers(4, 1, 0, 0, 2)), 4);
        fault(one(11, 0, Image.numbers(4, 1, 0, 0, 256)), 4);
        fault(one(12, 0), 0);
        fault(one(12, 0, 0, 1), 4);
        fault(one(12, 0, ticketRow(1, 4, 47, 3, 2000000, 1000000000)), 0);
        fault(one(12, 0, ticketRow(2, 0, 0, 0, 0, 0)), 4);
        fault(one(12, 0, ticketRow(1, 5, 0, 0, 0, 0)), 4);
        fault(one(12, 0, ticketRow(1, 0, 48, 0, 0, 0)), 4);
        fault(one(12, 0, ticketRow(1, 0, 0, 4, 0, 0)), 4);
        fault(one(12, 0, ticketRow(1, 0, 0, 0, 2000001, 0)), 4);
        fault(one(12, 0, ticketRow(1, 0, 0, 0, -1, 0)), 4);
        fault(one(12, 0, ticketRow(1, 0, 0, 0, 0, 1000000001)), 4);
        fault(one(12, 0, ticketRow(1, 0, 0, 0, 0, -1)), 4);
        fault(one(12, 0, ticketRow(1, 0, 0, 0, 0, 0, 1)), 4);
        fault(one(12, 0, ticketRow(1, 0, 0, 0, 0, 5)).key(12, 9, ticketRow(1, 1, 1, 1, 1, 5)), 4);
        fault(one(12, 0, ticketRow(1, 0, 0, 0, 0, 5)).key(12, 9, ticketRow(1, 0, 0, 0, 0, 6)), 0);
        fault(one(12, 0, ticketRow(1, 0, 0, 0, 0, 0)).key(12, 9), 0);
        KeptHouse x = new KeptHouse(0L);
        one(12, 3, ticketRow(1, 4, 47, 2, 2000000, 1000000000)).feed(x);
        Check.due("put", x.put(), 0);
        Check.due("number", x.ticketOf(0, 0), 1000000000);
        Check.due("the next", x.ticket(0, 0), 1000000001);
        x.image();
        x.copy();
        Check.due("one's own image beyond the bounds", x.put(), 4);
    }

    private static void accessBounds() {
        fault(one(13, 19, 1, 0, 109), 0);
        fault(one(13, 19, 1, 4, 1), 0);
        fault(one(13, 0, 0, 0, 1), 4);
        fault(one(13, 0, 2, 0, 1), 4);
        fault(one(13, 0, 1, 5, 1), 4);
        fault(one(13, 0, 1, 0, 110), 4);
        fault(one(13, 0, 1, 1, 0), 4);
        fault(one(13, 0, 1, 0, 1, 1), 4);
        fault(one(14, 39, 1, 23, 23, 1, 255, 255, 15), 0);
        fault(one(14, 0, 0), 4);
        fault(one(14, 0, 1, 24), 4);
        fault(one(14, 0, 1, 0, 24), 4);
        fault(one(14, 0, 1, 0, 0, 2), 4);
        fault(one(14, 0, 1, 0, 0, 0, 0, 0, 16), 4);
        fault(one(14, 0, 1, 0, 0, 0, 0, 0, 0, 128), 4);
        fault(one(14, 0, 1, 0, 0, 0, 0, 0, 0, 0, 1), 4);
        int[] most = {9, 9, 10, 0, 0, 0, 0};
        for (int kind = 0; kind < 7; kind++) {
            fault(one(15, 7, 1, kind, most[kind]), 0);
            fault(one(15, 7, 1, kind, most[kind] + 1), 4);
        }
        fault(one(15, 0, 1, 7), 4);
        fault(one(15, 0, 0), 4);
        fault(one(15, 0, 2), 4);
        fault(one(15, 0, 1, 0, 0, 1), 4);
    }

    /** The store opens as it was, wherever the power fails. */
    private static void putIsCut() {
        for (int n = 0; n < 4; n++) {
            KeptHouse x = new KeptHouse(0L);
            x.flat(4, 0, 8);
            one(3, 1, 5).key(3, 2, 6).feed(x);
            x.crash(n);
            if (n < 3) {
                Check.due("cut after " + n, x.put(), KeptHouse.CUT);
                Check.due("down", x.isDown(), true);
                Check.due("as it was", x.reopen(), 1);
                Check.due("flat", x.space(4, 3), 8);
                Check.due("area", x.rows(0), 0);
                Check.due("people", x.people(1, 0, 0), 0);
            } else {
                Check.due("two keys and the head", x.put(), 0);
                Check.due("people", x.people(1, 0, 0), 5);
                Check.due("crash is forgotten", x.people(1, 0, 0), 0);
            }
        }
    }

    private static void putOfNothing() {
        KeptHouse x = new KeptHouse(0L);
        x.flat(4, 0, 8);
        new Image().feed(x);
        Check.due("put", x.put(), 0);
        Check.due("no keys", x.rows(3), 0);
        Check.due("the head alone", x.rows(2), 1);
        Check.due("flat", x.space(4, 3), 15);
        Check.due("reopen", x.reopen(), 0);
        Check.due("area", x.rows(0), 1);
        Check.due("still none", x.space(4, 3), 15);
    }

    private static void wrongArguments() {
        KeptHouse x = new KeptHouse(0L);
        x.image();
        Check.illegalArgument("tape -1", () -> x.tape(-1));
        Check.illegalArgument("tape 6", () -> x.tape(6));
        Check.illegalArgument("poke none", () -> x.poke(0, 0));
    }
}
