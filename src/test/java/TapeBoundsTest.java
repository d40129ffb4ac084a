import java.util.Arrays;

/** Boundary cases of the tape, the reel and the bounds of an image (promises 61 to 67). */
public final class TapeBoundsTest {
    private static final int MOST = 100000000;
    private static final long RICH = 1000000000000000L;
    private static final int[] INDICES = {5, 5, 10, 2, 4, 8, 2, 10, 1, 1, 3, 16, 20, 40, 8};

    public static void main(String[] args) {
        tapeOfNothing();
        tapeStays();
        allKeys();
        copyAsFarAsThereIsRoom();
        lengths();
        sums();
        kindsAndIndices();
        orderOfKeys();
        sumBeforeKeys();
        borders();
        manySpaces();
        flats();
        people();
        weather();
        sun();
        programText();
        ratings();
        flatRows();
        cashRow();
        priceRow();
        partRows();
        ticketRows();
        ticketNumbers();
        doorRows();
        cardRows();
        pointRows();
        bytesOfWhichNothingIsSaid();
        beyondByCalls();
        keysAreJustThose();
        newGenerations();
        cutAtEachRow();
        anew();
        oneImageBehindAnother();
        spacesOfTheImageAlone();
        pointsOfTheImageAlone();
        Check.end();
    }

    private static Image one(int kind, int index, int... bytes) {
        return new Image().key(kind, index, bytes);
    }

    private static int put(Image image) {
        KeptHouse x = new KeptHouse(0L);
        image.feed(x);
        return x.put();
    }

    private static int putOf(int... bytes) {
        KeptHouse x = new KeptHouse(0L);
        Image.feed(x, bytes);
        return x.put();
    }

    /** A number in a row at its least and its greatest, and just beyond both. */
    private static void field(String what, int kind, int index, int[] row, int at, int size, long least, long most) {
        long[] values = {least - 1, least, most, most + 1};
        int[] due = {4, 0, 0, 4};
        for (int i = 0; i < 4; i++) {
            int[] bytes = Arrays.copyOf(row, 28);
            System.arraycopy(Image.numbers(size, values[i]), 0, bytes, at, size);
            Check.due(what + " of " + values[i], put(one(kind, index, bytes)), due[i]);
        }
    }

    private static void tapeOfNothing() {
        KeptHouse x = new KeptHouse(0L);
        Check.illegalArgument("empty at first", () -> x.tape(0));
        Check.due("nothing to copy", x.copy(), 0);
        Check.due("no keys: two bytes and four", x.image(), 6);
        Check.illegalArgument("byte 6", () -> x.tape(6));
        Check.illegalArgument("byte -1", () -> x.tape(-1));
        int[] want = new Image().bytes();
        for (int i = 0; i < 6; i++) {
            Check.due("byte " + i, x.tape(i), want[i]);
        }
        Check.due("copied", x.copy(), 6);
        Check.due("put in", x.put(), 0);
        Check.due("no keys", x.rows(3), 0);
        Check.due("generation", x.rows(1), 2);
        Check.due("the head alone", x.rows(2), 1);
    }

    /** THE TAPE stays as it was made until the next image(). */
    private static void tapeStays() {
        KeptHouse x = new KeptHouse(0L);
        x.people(0, 0, 1);
        x.image();
        x.people(0, 0, 2);
        x.flat(0, 0, 1);
        Check.due("as it was", x.tape(4), 1);
        Check.due("so many", x.copy(), 36);
        Check.due("the reel is another", x.poke(4, 9), 1);
        Check.due("the tape is not poked", x.tape(4), 1);
        x.empty();
        Check.due("nor emptied", x.copy(), 36);
        Check.due("two keys now", x.image(), 66);
        Check.due("a flat", x.tape(4), 0xF1);
        Check.illegalArgument("no byte 66", () -> x.tape(66));
        Check.due("byte 65", x.tape(65) >= 0, true);
    }

    /** A house with all keys that there are: 135. */
    private static KeptHouse full() {
        KeptHouse x = new KeptHouse(0L);
        for (int storey = 0; storey < 5; storey++) {
            x.edit(0, storey, 0, 1, 1, 3);
            x.flat(storey, 0, storey);
        }
        x.merge(0);
        for (int flat = 0; flat < 10; flat++) {
            x.people(flat, 5, 1);
        }
        x.weather(0, 1);
        x.weather(12, 1);
        for (int side = 0; side < 4; side++) {
            x.sun(side, 0, 1);
        }
        x.load();
        x.rate(0, 1, 1);
        x.run(120);
        x.run(120);
        for (int i = 0; i < 16; i++) {
            x.ticket(0, i);
        }
        for (int i = 0; i < 20; i++) {
            x.door(0, i);
        }
        for (int i = 0; i < 40; i++) {
            x.card(i, i, 0, 23, false);
        }
        for (int i = 0; i < 8; i++) {
            x.point(i, 3, 0);
        }
        return x;
    }

    /** The longest image: 135 keys of 30 bytes; it can be put in, and there is still room on the disk. */
    private static void allKeys() {
        KeptHouse x = full();
        Check.due("keys", x.rows(3), 135);
        Check.due("image", x.image(), 4056);
        Check.due("low byte of 135", x.tape(0), 135);
        Check.due("high byte", x.tape(1), 0);
        Check.due("the last key's kind", x.tape(4056 - 34), 15);
        Check.due("its index", x.tape(4056 - 33), 7);
        Check.illegalArgument("no byte 4056", () -> x.tape(4056));
        Check.due("copied", x.copy(), 4056);
        Check.due("put", x.put(), 0);
        Check.due("all keys", x.rows(3), 135);
        Check.due("136 rows", x.rows(2), 136);
        Check.due("reopened", x.reopen(), 135);
        Check.due("tickets", x.tickets(), 16);
        Check.due("time", x.state(10), 240);
        Check.due("doors", x.door(0, 0), KeptHouse.FULL);
        for (int i = 0; i < 64; i++) {
            x.flat(0, 0, 1);
        }
        Check.due("64 rows more", x.rows(2), 200);
        x.flat(0, 0, 2);
        Check.due("then a snapshot of all", x.rows(2), 137);
        Check.due("in another generation", x.rows(1), x.disk(x.rows(0), 0, 8));
    }

    /** "Byte by byte, as far as that has room: how many THE REEL has." */
    private static void copyAsFarAsThereIsRoom() {
        KeptHouse x = full();
        x.image();
        Check.due("4056", x.copy(), 4056);
        Check.due("44 more", x.copy(), 4100);
        Check.due("no more", x.copy(), 4100);
        Check.illegalState("full", () -> x.feed(0));
        Check.due("the last one copied", x.poke(4099, 0), x.tape(43));
        Check.due("the last of the first", x.poke(4055, 0), x.tape(4055));
        Check.due("too long an image", x.put(), 1);
        Check.due("all of it", x.empty(), 4100);
        for (int i = 0; i < 44; i++) {
            x.feed(i);
        }
        Check.due("just room for all", x.copy(), 4100);
        Check.due("its last byte", x.poke(4099, 0), x.tape(4055));
        x.empty();
        for (int i = 0; i < 45; i++) {
            x.feed(i);
        }
        Check.due("one byte too many", x.copy(), 4100);
        Check.due("the last one but one", x.poke(4099, 0), x.tape(4054));
    }

    /** "1 it has not just the bytes that it must have by its first two (or fewer than two)". */
    private static void lengths() {
        Check.due("none", putOf(), 1);
        Check.due("one", putOf(0), 1);
        Check.due("two", putOf(0, 0), 1);
        Check.due("five", putOf(0, 0, 0, 0, 0), 1);
        Check.due("six", putOf(new Image().bytes()), 0);
        Check.due("seven", putOf(Arrays.copyOf(new Image().bytes(), 7)), 1);
        int[] bytes = one(3, 0).bytes();
        Check.due("36", putOf(bytes), 0);
        Check.due("35", putOf(Arrays.copyOf(bytes, 35)), 1);
        Check.due("37", putOf(Arrays.copyOf(bytes, 37)), 1);
        int[][] firsts = {{0, 0}, {2, 0}, {1, 1}, {0, 1}, {255, 255}, {1, 255}};
        for (int[] first : firsts) {
            int[] other = bytes.clone();
            other[0] = first[0];
            other[1] = first[1];
            Image.seal(other);
            Check.due("36 bytes with " + first[0] + ", " + first[1], putOf(other), 1);
        }
    }

    /** "2 its sum is not right": one bit of each byte, the sum's with them. */
    private static void sums() {
        int[] bytes = one(3, 0, 1, 2, 3).bytes();
        for (int i = 2; i < bytes.length; i++) {
            int[] other = bytes.clone();
            other[i] ^= 1 << i % 8;
            Check.due("byte " + i, putOf(other), 2);
        }
        Check.due("unchanged", putOf(bytes), 0);
        Check.due("all sums 0", putOf(0, 0, 0, 0, 0, 0), 2);
    }

    /** "3 a kind or index that is none": the last index of each kind, and one more. */
    private static void kindsAndIndices() {
        Check.due("kind 0", put(one(0, 0)), 3);
        Check.due("kind 16", put(one(16, 0)), 3);
        Check.due("kind 255", put(one(255, 0)), 3);
        for (int kind = 1; kind <= 15; kind++) {
            int last = INDICES[kind - 1] - 1;
            Check.due("first of " + kind, put(one(kind, 0, legal(kind, 0))), 0);
            Check.due("last of " + kind, put(one(kind, last, legal(kind, last))), 0);
            Check.due("one more of " + kind, put(one(kind, last + 1, legal(kind, last))), 3);
            Check.due("index 255 of " + kind, put(one(kind, 255, legal(kind, last))), 3);
        }
    }

    /** A row that is within all bounds. */
    private static int[] legal(int kind, int index) {
        switch (kind) {
            case 1:
                return edges(2, 0);
            case 7:
                return index == 0 ? Image.numbers(2, 1, 1, 1, 1, 1, 1, 1, 1, 1, 1, 1) : new int[28];
            case 11:
                return Image.numbers(4, 1, 0, 0);
            case 13:
            case 14:
            case 15:
                return new int[] {1};
            default:
                return new int[28];
        }
    }

    /** "Or not behind the one before." */
    private static void orderOfKeys() {
        Check.due("the next index", put(one(3, 0).key(3, 1)), 0);
        Check.due("the same key", put(one(3, 1).key(3, 1)), 3);
        Check.due("an index before", put(one(3, 1).key(3, 0)), 3);
        Check.due("the next kind", put(one(3, 9).key(5, 0)), 0);
        Check.due("a kind before", put(one(5, 0).key(3, 9)), 3);
        Check.due("the last of one kind, the first of the next", put(one(2, 4).key(3, 0)), 0);
        Check.due("turned", put(one(3, 0).key(2, 4)), 3);
        Check.due("the third of three", put(one(3, 0).key(3, 2).key(3, 1)), 3);
    }

    /** Faults of all keys: 2 before 3 before 4. */
    private static void sumBeforeKeys() {
        int[] bytes = one(3, 0, 21).key(16, 0).bytes();
        Check.due("the kind before the bounds", putOf(bytes), 3);
        bytes[bytes.length - 1] ^= 1;
        Check.due("the sum before the kind", putOf(bytes), 2);
        Check.due("the length before the sum", putOf(Arrays.copyOf(bytes, bytes.length - 1)), 1);
        Check.due("the bounds alone", put(one(3, 0, 21).key(3, 1)), 4);
        Check.due("of the last key, too", put(one(3, 0).key(3, 1, 21)), 4);
    }

    private static boolean isBorder(int e) {
        return e < 54 ? e % 9 == 0 || e % 9 == 8 : e < 62 || e >= 102;
    }

    private static int[] edges(int border, int inner) {
        int[] bytes = new int[28];
        for (int e = 0; e < 110; e++) {
            set(bytes, e, isBorder(e) ? border : inner);
        }
        return bytes;
    }

    private static void set(int[] bytes, int e, int kind) {
        bytes[e / 4] &= ~(3 << 2 * (e % 4));
        bytes[e / 4] |= kind << 2 * (e % 4);
    }

    /** "Edges at the border HEAVY or GLASS": each edge by itself. */
    private static void borders() {
        for (int e = 0; e < 110; e++) {
            for (int kind = 0; kind < 4; kind++) {
                int[] bytes = edges(2, 0);
                set(bytes, e, kind);
                Check.due("edge " + e + " of kind " + kind, put(one(1, e % 5, bytes)), isBorder(e) && kind < 2 ? 4 : 0);
            }
        }
    }

    /** So many cells of a storey by themselves. */
    private static int[] cells(int n) {
        int[] bytes = edges(2, 0);
        for (int cell = 0; cell < n; cell++) {
            for (int e : new int[] {cell / 8 * 9 + cell % 8, cell / 8 * 9 + cell % 8 + 1, 54 + cell, 54 + cell + 8}) {
                if (!isBorder(e)) {
                    set(bytes, e, 1);
                }
            }
        }
        return bytes;
    }

    /** "No more than 40 spaces in all (with those storeys that are not there as at first)". */
    private static void manySpaces() {
        Check.due("35 cells and 5", put(one(1, 0, cells(35))), 0);
        Check.due("36 cells and 5", put(one(1, 0, cells(36))), 4);
        Check.due("in the last storey", put(one(1, 4, cells(35))), 0);
        Check.due("one more in the last storey", put(one(1, 4, cells(36))), 4);
        Check.due("in two storeys", put(one(1, 1, cells(20)).key(1, 3, cells(15))), 0);
        Check.due("one more in two storeys", put(one(1, 1, cells(20)).key(1, 3, cells(16))), 4);
        Image image = new Image();
        for (int storey = 0; storey < 5; storey++) {
            image.key(1, storey, cells(7));
        }
        Check.due("seven in each", put(image), 0);
        KeptHouse x = new KeptHouse(0L);
        one(1, 0, cells(35)).feed(x);
        x.put();
        Check.due("40 spaces", x.spaces(), 40);
    }

    private static void flats() {
        for (int flat = 0; flat < 16; flat++) {
            boolean legal = flat < 10 || flat == 15;
            for (int cell : new int[] {0, 1, 46, 47}) {
                int[] bytes = new int[28];
                Arrays.fill(bytes, 0, 24, 0xFF);
                bytes[cell / 2] = cell % 2 == 0 ? 0xF0 | flat : flat << 4 | 0xF;
                Check.due("flat " + flat + " of cell " + cell, put(one(2, 4, bytes)), legal ? 0 : 4);
            }
        }
    }

    private static void people() {
        field("people of hour 0", 3, 0, new int[28], 0, 1, 0, 20);
        field("people of hour 23", 3, 9, new int[28], 23, 1, 0, 20);
    }

    private static void weather() {
        field("weather of hour 0", 4, 0, new int[28], 0, 2, -400, 500);
        field("weather of hour 11", 4, 0, new int[28], 22, 2, -400, 500);
        field("weather of hour 23", 4, 1, new int[28], 22, 2, -400, 500);
        Check.due("32767", put(one(4, 0, 0xFF, 0x7F)), 4);
        Check.due("-32768", put(one(4, 0, 0, 0x80)), 4);
    }

    private static void sun() {
        field("sun of hour 0", 5, 0, new int[28], 0, 1, 0, 200);
        field("sun of hour 23", 5, 3, new int[28], 23, 1, 0, 200);
    }

    private static Image text(String text, int length) {
        Image image = new Image();
        for (int i = 0; i < 7; i++) {
            int[] bytes = new int[28];
            for (int j = 0; j < 28 && 28 * i + j < text.length(); j++) {
                bytes[j] = text.charAt(28 * i + j);
            }
            image.key(6, i, bytes);
        }
        return image.key(6, 7, length);
    }

    /** "Its length at most 196, characters as told, those behind its end 0, no fault in it". */
    private static void programText() {
        String blank = " ".repeat(192);
        Check.due("196", put(text(blank + "l=1;", 196)), 0);
        Check.due("197", put(text(blank + "l=1;", 197)), 4);
        Check.due("255", put(text(blank + "l=1;", 255)), 4);
        Check.due("195 of 196", put(text(blank + "l=1;", 195)), 4);
        Check.due("one too few", put(text("l=1;", 3)), 4);
        Check.due("just so many", put(text("l=1;", 4)), 0);
        Check.due("one too many", put(text("l=1;", 5)), 4);
        Check.due("a blank behind", put(text("l=1; ", 5)), 0);
        Check.due("a blank behind its end", put(text("l=1; ", 4)), 4);
        Check.due("a fault", put(text("l=1", 3)), 4);
        Check.due("twelve statements", put(text("l=1;".repeat(12), 48)), 0);
        Check.due("thirteen", put(text("l=1;".repeat(13), 52)), 4);
        Check.due("empty", put(text("", 0)), 0);
        Check.due("code 31", put(text("\u001f", 1)), 4);
        Check.due("code 32", put(text(" ", 1)), 0);
        Check.due("code 127", put(text("\u007f", 1)), 4);
        Check.due("code 255", put(text("\u00ff", 1)), 4);
        Check.due("code 126 is no token", put(text("~", 1)), 4);
        // Characters of keys that are not there are 0, a length that is not there is 0.
        int[] some = {'l', '=', '1', ';'};
        Check.due("no length", put(one(6, 0, some)), 4);
        Check.due("no characters", put(one(6, 7, 4)), 4);
        Check.due("both", put(one(6, 0, some).key(6, 7, 4)), 0);
        Check.due("a length of 0 alone", put(one(6, 7, 0)), 0);
        Check.due("characters of another key", put(one(6, 1, some).key(6, 7, 4)), 4);
        Check.due("no keys of it at all", put(one(3, 0)), 0);
    }

    private static void ratings() {
        int[] row = Image.numbers(2, 7, 7, 7, 7, 7, 7, 7, 7, 7, 7, 7);
        field("rating of circuit 0", 7, 0, row, 0, 2, 1, 500);
        field("rating of circuit 10", 7, 0, row, 20, 2, 1, 500);
        field("rank of circuit 0", 7, 1, new int[28], 0, 1, 0, 9);
        field("rank of circuit 10", 7, 1, new int[28], 10, 1, 0, 9);
        Check.due("ratings all 0", put(one(7, 0)), 4);
    }

    private static void flatRows() {
        field("balance", 8, 0, new int[28], 0, 8, -RICH, RICH);
        field("bill", 8, 9, new int[28], 8, 8, -RICH, RICH);
        for (int at = 16; at < 28; at += 4) {
            field("meter at " + at, 8, 5, new int[28], at, 4, 0, MOST);
        }
        Check.due("the greatest of 4 bytes", put(one(8, 0, Image.join(new int[16], Image.numbers(4, Integer.MAX_VALUE)))), 4);
        Check.due("the least of 8 bytes", put(one(8, 0, Image.numbers(8, Long.MIN_VALUE))), 4);
        Check.due("the greatest of 8 bytes", put(one(8, 0, Image.numbers(8, Long.MAX_VALUE))), 4);
    }

    private static void cashRow() {
        field("time", 9, 0, new int[28], 0, 4, 0, 1000000);
        field("cash", 9, 0, new int[28], 4, 8, -RICH, RICH);
        field("lost", 9, 0, new int[28], 12, 8, -RICH, RICH);
        field("gas", 9, 0, new int[28], 20, 4, 0, MOST);
        field("care", 9, 0, new int[28], 24, 4, 0, MOST);
    }

    private static void priceRow() {
        field("the house's power", 10, 0, new int[28], 0, 4, 0, MOST);
        field("the house's heat", 10, 0, new int[28], 4, 4, 0, MOST);
        field("cap", 10, 0, new int[28], 8, 4, 0, 20000);
        for (int at = 12; at < 24; at += 4) {
            field("price at " + at, 10, 0, new int[28], at, 4, 0, 1000);
        }
    }

    private static void partRows() {
        int[] row = Image.numbers(4, 1, 0, 0);
        for (int part = 0; part < 3; part++) {
            field("life", 11, part, row, 0, 4, 1, 100000);
            field("wear", 11, part, row, 4, 4, 0, MOST);
            field("stock", 11, part, row, 8, 4, 0, 99);
            field("failed", 11, part, row, 12, 1, 0, 1);
        }
        Check.due("all 0 has no life", put(one(11, 0)), 4);
    }

    private static void ticketRows() {
        int[] row = {1, 0, 0, 0};
        field("storey", 12, 0, row, 1, 1, 0, 4);
        field("cell", 12, 15, row, 2, 1, 0, 47);
        field("part", 12, 3, row, 3, 1, 0, 3);
        field("time", 12, 3, row, 4, 4, 0, 2000000);
        field("number", 12, 3, row, 8, 4, 0, 1000000000);
        field("whether there is one", 12, 3, row, 0, 1, 0, 1);
        // "0 (then all 0)": any other byte of it.
        for (int i = 1; i < 28; i++) {
            int[] bytes = new int[28];
            bytes[i] = 1;
            Check.due("none, but byte " + i, put(one(12, 0, bytes)), 4);
        }
        Check.due("none", put(one(12, 0)), 0);
    }

    private static int[] ticket(int number) {
        return Image.join(new int[] {1, 0, 0, 3}, Image.numbers(4, 0, number));
    }

    /** "The number .. of which no two are the same": those that are there alone. */
    private static void ticketNumbers() {
        Check.due("0 and 1", put(one(12, 0, ticket(0)).key(12, 1, ticket(1))), 0);
        Check.due("0 and 0", put(one(12, 0, ticket(0)).key(12, 1, ticket(0))), 4);
        Check.due("the first and the last", put(one(12, 0, ticket(7)).key(12, 15, ticket(7))), 4);
        Check.due("the greatest twice", put(one(12, 3, ticket(1000000000)).key(12, 4, ticket(1000000000))), 4);
        Check.due("two that are none", put(one(12, 0).key(12, 1)), 0);
        Check.due("one that is none, and 0", put(one(12, 0).key(12, 1, ticket(0))), 0);
        Image all = new Image();
        for (int i = 0; i < 15; i++) {
            all.key(12, i, ticket(20 - i));
        }
        Check.due("fifteen apart", put(all), 0);
        Check.due("the sixteenth as the first", put(all.key(12, 15, ticket(20))), 4);
    }

    private static void doorRows() {
        field("whether there is one", 13, 0, new int[] {1, 1, 1}, 0, 1, 1, 1);
        field("storey", 13, 19, new int[] {1, 0, 1}, 1, 1, 0, 4);
        field("edge", 13, 19, new int[] {1, 0, 0}, 2, 1, 0, 109);
        for (int storey : new int[] {0, 1, 4}) {
            for (int e : new int[] {0, 1, 7, 8, 9, 53, 54, 61, 62, 101, 102, 109}) {
                boolean legal = storey == 0 || !isBorder(e);
                Check.due("storey " + storey + ", edge " + e, put(one(13, 0, 1, storey, e)), legal ? 0 : 4);
            }
        }
    }

    private static void cardRows() {
        int[] row = {1};
        field("whether there is one", 14, 0, row, 0, 1, 1, 1);
        field("from", 14, 39, row, 1, 1, 0, 23);
        field("to", 14, 39, row, 2, 1, 0, 23);
        field("blocked", 14, 39, row, 3, 1, 0, 1);
        field("rights", 14, 39, row, 4, 4, 0, 0xFFFFF);
        Check.due("bit 19", put(one(14, 0, 1, 0, 0, 0, 0, 0, 8)), 0);
        Check.due("bit 20", put(one(14, 0, 1, 0, 0, 0, 0, 0, 16)), 4);
        Check.due("bit 31", put(one(14, 0, 1, 0, 0, 0, 0, 0, 0, 128)), 4);
    }

    private static void pointRows() {
        int[] most = {9, 9, 10, 0, 0, 0, 0};
        field("whether there is one", 15, 0, new int[] {1}, 0, 1, 1, 1);
        field("kind", 15, 7, new int[] {1}, 1, 1, 0, 6);
        for (int kind = 0; kind < 7; kind++) {
            field("index of kind " + kind, 15, 7, new int[] {1, kind}, 2, 1, 0, most[kind]);
        }
    }

    /** "Bytes that nothing is said of, and the four highest bits of byte 27 of kind 1, 0." */
    private static void bytesOfWhichNothingIsSaid() {
        int[] free = {28, 24, 24, 24, 24, 28, 22, 28, 28, 24, 13, 12, 3, 8, 3};
        for (int kind = 1; kind <= 15; kind++) {
            int[] row = Arrays.copyOf(legal(kind, 0), 28);
            if (kind == 12) {
                row[0] = 1;
            }
            Check.due("as it is, kind " + kind, put(one(kind, 0, row)), 0);
            for (int i = free[kind - 1]; i < 28; i++) {
                int[] bytes = row.clone();
                bytes[i] = 1;
                Check.due("kind " + kind + ", byte " + i, put(one(kind, 0, bytes)), 4);
            }
        }
        for (int i = 11; i < 28; i++) {
            int[] bytes = new int[28];
            bytes[i] = 1;
            Check.due("ranks, byte " + i, put(one(7, 1, bytes)), 4);
        }
        for (int i = 1; i < 28; i++) {
            int[] bytes = new int[28];
            bytes[i] = 1;
            Check.due("length, byte " + i, put(one(6, 7, bytes)), 4);
        }
        for (int bit = 0; bit < 8; bit++) {
            int[] bytes = edges(2, 0);
            bytes[27] |= 1 << bit;
            // The lower four bits are edges 108 and 109, HEAVY or GLASS with another bit.
            Check.due("bit " + bit + " of byte 27", put(one(1, 0, bytes)), bit < 4 ? 0 : 4);
        }
    }

    /** "What has come beyond these bounds by calls is a fault in it." */
    private static void beyondByCalls() {
        KeptHouse x = new KeptHouse(0L);
        one(8, 0, Image.numbers(8, RICH)).feed(x);
        x.put();
        x.pay(0, 1);
        x.image();
        x.copy();
        Check.due("a balance", x.put(), 4);
        Check.due("it is as it was", x.account(0, 0), RICH + 1);
        KeptHouse y = new KeptHouse(0L);
        one(9, 0, Image.numbers(4, 1000000)).feed(y);
        y.put();
        y.image();
        y.copy();
        Check.due("the time just met", y.put(), 0);
        Check.due("the day's end", y.run(80), 1000080);
        y.image();
        y.copy();
        Check.due("the time", y.put(), 4);
        KeptHouse z = new KeptHouse(0L);
        one(9, 0, Image.join(new int[24], Image.numbers(4, MOST - 500))).feed(z);
        z.put();
        z.ticket(0, 0);
        z.tour(0);
        z.run(16);
        z.image();
        z.copy();
        Check.due("care just met", z.put(), 0);
        z.ticket(0, 0);
        z.tour(0);
        z.run(16);
        Check.due("care", z.money(3), MOST + 500);
        z.image();
        z.copy();
        Check.due("care beyond", z.put(), 4);
    }

    /** "The keys are just those of it, written as A SNAPSHOT with its head to the other area." */
    private static void keysAreJustThose() {
        KeptHouse x = new KeptHouse(0L);
        x.flat(0, 0, 1);
        x.people(0, 0, 5);
        x.ticket(0, 0);
        one(5, 1, 7).key(5, 3, 9).feed(x);
        Check.due("put", x.put(), 0);
        Check.due("two keys", x.rows(3), 2);
        Check.due("area", x.rows(0), 1);
        Check.due("three rows", x.rows(2), 3);
        Check.due("first", x.disk(1, 1, 0) * 16 + x.disk(1, 1, 1), 5 * 16 + 1);
        Check.due("not last", x.disk(1, 1, 2), 0);
        Check.due("second", x.disk(1, 2, 0) * 16 + x.disk(1, 2, 1), 5 * 16 + 3);
        Check.due("last", x.disk(1, 2, 2), 1);
        Check.due("rows in the head", x.disk(1, 0, 12), 2);
        Check.due("no flat", x.space(0, 3), 15);
        Check.due("nobody", x.people(0, 0, 0), 0);
        Check.due("no ticket", x.tickets(), 0);
        Check.due("sun", x.sun(1, 0, 0), 7);
        Check.due("the other", x.sun(3, 0, 0), 9);
        Check.due("no third", x.sun(2, 0, 0), 0);
    }

    private static void newGenerations() {
        KeptHouse x = new KeptHouse(0L);
        for (int generation = 2; generation < 6; generation++) {
            new Image().feed(x);
            Check.due("put", x.put(), 0);
            Check.due("generation", x.rows(1), generation);
            Check.due("area", x.rows(0), generation % 2 == 0 ? 1 : 0);
            Check.due("reopened", x.reopen(), 0);
            Check.due("generation then", x.rows(1), generation);
        }
    }

    /** "CUT (then the store opens as it was)": behind each row of the snapshot, and in its head. */
    private static void cutAtEachRow() {
        for (int n = 0; n <= 3; n++) {
            KeptHouse x = new KeptHouse(0L);
            x.flat(0, 0, 1);
            one(5, 1, 7).key(5, 3, 9).feed(x);
            x.crash(n);
            Check.due("with " + n, x.put(), n < 3 ? KeptHouse.CUT : 0);
            Check.due("down with " + n, x.isDown(), n < 3);
            Check.due("rows with " + n, x.reopen(), n < 3 ? 1 : 2);
            Check.due("flat with " + n, x.space(0, 3), n < 3 ? 1 : 15);
            Check.due("sun with " + n, x.sun(1, 0, 0), n < 3 ? 0 : 7);
            Check.due("area with " + n, x.rows(0), n < 3 ? 0 : 1);
        }
        KeptHouse y = new KeptHouse(0L);
        y.flat(0, 0, 1);
        new Image().feed(y);
        y.crash(0);
        Check.due("an image of nothing has its head", y.put(), KeptHouse.CUT);
        Check.due("as it was", y.reopen(), 1);
    }

    /** "The house BEGINS ANEW as they tell": text, tape and reel are empty. */
    private static void anew() {
        KeptHouse x = new KeptHouse(0L);
        x.edit(1, 0, 1, 1, 1, 1);
        x.merge(0);
        x.type('l');
        x.ignite(0, 0);
        x.fuel(7);
        x.run(3);
        x.image();
        new Image().feed(x);
        Check.due("put", x.put(), 0);
        Check.due("version", x.version(), 0);
        Check.due("draft", x.draft(1, 0, 1), 0);
        Check.due("text", x.wipe(), 0);
        Check.due("flame", x.cell(0, 0, 4), 0);
        Check.due("fuel", x.state(1), 100);
        Check.due("time", x.state(10), 0);
        Check.due("reel", x.empty(), 0);
        Check.illegalArgument("tape", () -> x.tape(0));
    }

    /** What an image does not tell is as at first, though the one before it told it: the program, all keys. */
    private static void oneImageBehindAnother() {
        KeptHouse x = new KeptHouse(0L);
        one(3, 0, 5).key(6, 0, 's', '0', '=', '7', '7', ';').key(6, 7, 6).feed(x);
        Check.due("put", x.put(), 0);
        x.run(1);
        Check.due("its program", x.target(0), 77);
        one(3, 1, 6).feed(x);
        Check.due("put again", x.put(), 0);
        Check.due("no program", x.target(0), 200);
        x.run(1);
        Check.due("none at all", x.target(0), 200);
        Check.due("nobody in flat 0", x.people(0, 0, 0), 0);
        Check.due("some in flat 1", x.people(1, 0, 0), 6);
        Check.due("keys", x.rows(3), 2);
        // A length that is not there is 0, whatever an image before told.
        one(6, 0, 's', '0', '=', '7', '7', ';').feed(x);
        Check.due("characters without a length", x.put(), 4);
        one(6, 7, 6).feed(x);
        Check.due("a length without characters", x.put(), 4);
        new Image().feed(x);
        Check.due("nothing", x.put(), 0);
    }

    /** "With those storeys that are not there as at first", not as the plan has them. */
    private static void spacesOfTheImageAlone() {
        KeptHouse x = new KeptHouse(0L);
        for (int storey = 1; storey < 5; storey++) {
            for (int column = 1; column < 8; column++) {
                x.edit(0, storey, column, 6, 9, 1);
            }
        }
        x.merge(0);
        Check.due("spaces", x.spaces(), 33);
        one(1, 0, cells(35)).feed(x);
        Check.due("40 of the image", x.put(), 0);
        Check.due("spaces then", x.spaces(), 40);
        one(1, 4, cells(35)).feed(x);
        Check.due("40 in another storey", x.put(), 0);
        Check.due("spaces at last", x.spaces(), 40);
        Check.due("storey 0 is as at first", x.spaceAt(0, 47), 0);
    }

    private static void pointsOfTheImageAlone() {
        KeptHouse x = new KeptHouse(0L);
        x.point(2, 3, 0);
        x.point(3, 3, 0);
        x.run(20);
        one(15, 3, 1, 5, 0).feed(x);
        Check.due("put", x.put(), 0);
        Check.illegalArgument("not told now", () -> x.trend(2, 0));
        Check.illegalArgument("no value of this one", () -> x.trend(3, 0));
        x.run(10);
        Check.illegalArgument("still not told", () -> x.trend(2, 0));
        Check.due("charge", x.trend(3, 0), 1800);
    }
}
