import java.util.zip.CRC32;

/** Boundary cases of the disk: room, snapshots, generations, crashes, reopening (promises 56 to 60). */
public final class StoreBoundsTest {
    private static final int CUT = KeptHouse.CUT;
    private static final int NONE = KeptHouse.NONE;

    public static void main(String[] args) {
        emptyDisk();
        formOfARow();
        oneRowToTheEnd();
        twoRowsToTheEnd();
        eightRowsToTheEnd();
        dayToTheEnd();
        snapshotAsWrittenLast();
        snapshotOfAllKinds();
        backAndForth();
        cutAtEachRowOfASnapshot();
        cutAtEachRowOfAGroup();
        generationsThatWereTried();
        cutFirstRowOfASnapshot();
        twentyFourBytes();
        crashCountsWholeRows();
        aThousandRows();
        latestCrashCounts();
        crashIsForgotten();
        reopenWhenUp();
        reopenTwice();
        oldRowsBehind();
        oldGroupsLastRowBehind();
        groupsOfOneMinute();
        downOrNot();
        cutWhenAreaOneIsInUse();
        Check.end();
    }

    private static long number(KeptHouse x, int area, int row, int at) {
        long v = 0;
        for (int i = 3; i >= 0; i--) {
            v = v * 256 + x.disk(area, row, at + i);
        }
        return v;
    }

    private static boolean isRight(KeptHouse x, int area, int row) {
        CRC32 sum = new CRC32();
        for (int i = 0; i < 44; i++) {
            sum.update(x.disk(area, row, i));
        }
        return sum.getValue() == number(x, area, row, 44);
    }

    /** "At first all 0, but row 0 of area 0 .. that of generation 1 with 0 rows." */
    private static void emptyDisk() {
        KeptHouse x = new KeptHouse(0L);
        for (int i = 0; i < 44; i++) {
            Check.due("byte " + i + " of the head", x.disk(0, 0, i), i == 2 || i == 8 ? 1 : 0);
        }
        Check.due("its check", isRight(x, 0, 0), true);
        for (int i = 0; i < 48; i++) {
            Check.due("row 1", x.disk(0, 1, i), 0);
            Check.due("row 199", x.disk(0, 199, i), 0);
            Check.due("row 0 of area 1", x.disk(1, 0, i), 0);
            Check.due("row 199 of area 1", x.disk(1, 199, i), 0);
        }
        int[] rows = {0, 1, 1, 0};
        for (int what = 0; what < 4; what++) {
            Check.due("rows " + what, x.rows(what), rows[what]);
        }
    }

    private static void formOfARow() {
        KeptHouse x = new KeptHouse(0L);
        x.pay(9, 1);
        x.people(1, 2, 3);
        int[][] due = {{8, 9, 0, 1}, {9, 0, 1, 2}, {3, 1, 1, 3}};
        for (int row = 1; row <= 3; row++) {
            Check.due("kind", x.disk(0, row, 0), due[row - 1][0]);
            Check.due("index", x.disk(0, row, 1), due[row - 1][1]);
            Check.due("last", x.disk(0, row, 2), due[row - 1][2]);
            Check.due("not cut", x.disk(0, row, 3), 0);
            Check.due("number", number(x, 0, row, 4), due[row - 1][3]);
            Check.due("generation", number(x, 0, row, 8), 1);
            Check.due("nothing between", number(x, 0, row, 40), 0);
            Check.due("check", isRight(x, 0, row), true);
        }
        Check.due("four with the head", x.rows(2), 4);
        Check.due("three keys", x.rows(3), 3);
    }

    /** Writes rows of ten keys until so many stand in the area in use. */
    private static void fill(KeptHouse x, int rows) {
        for (int n = 0; x.rows(2) < rows; n++) {
            x.people(n % 10, n % 24, n % 21);
        }
    }

    /** "Behind the rows of the area that is in use, if there is room for all": row 199, and one more. */
    private static void oneRowToTheEnd() {
        KeptHouse x = new KeptHouse(0L);
        fill(x, 199);
        x.flat(0, 0, 1);
        Check.due("the last row", x.rows(2), 200);
        Check.due("area", x.rows(0), 0);
        Check.due("number 199", number(x, 0, 199, 4), 199);
        Check.due("reopened", x.reopen(), 199);
        Check.due("it counts", x.space(0, 3), 1);
        x.flat(0, 0, 2);
        Check.due("one more: the other area", x.rows(0), 1);
        Check.due("11 keys and a row", x.rows(2), 13);
    }

    private static void twoRowsToTheEnd() {
        KeptHouse x = new KeptHouse(0L);
        fill(x, 198);
        x.pay(0, 1);
        Check.due("just room for two", x.rows(2), 200);
        Check.due("area", x.rows(0), 0);
        KeptHouse y = new KeptHouse(0L);
        fill(y, 199);
        y.pay(0, 1);
        Check.due("room for one alone", y.rows(0), 1);
        Check.due("ten keys, and two rows", y.rows(2), 13);
        Check.due("row 199 was not written", number(y, 0, 199, 4), 0);
    }

    private static void eightRowsToTheEnd() {
        for (int rows = 192; rows <= 193; rows++) {
            KeptHouse x = new KeptHouse(0L);
            fill(x, rows);
            x.load();
            Check.due("eight rows on " + rows, x.rows(0), rows == 192 ? 0 : 1);
            Check.due("rows then", x.rows(2), rows == 192 ? 200 : 19);
        }
    }

    private static void dayToTheEnd() {
        for (int rows = 185; rows <= 186; rows++) {
            KeptHouse x = new KeptHouse(0L);
            fill(x, rows);
            Told.runTo(x, 240);
            Check.due("fifteen rows on " + rows, x.rows(0), rows == 185 ? 0 : 1);
            Check.due("rows then", x.rows(2), rows == 185 ? 200 : 26);
            x.reopen();
            Check.due("time", x.state(10), 240);
        }
    }

    /** "All keys that are there, as they were written last": what the group tells is not in it. */
    private static void snapshotAsWrittenLast() {
        KeptHouse x = new KeptHouse(0L);
        x.flat(0, 0, 1);
        fill(x, 200);
        x.flat(0, 0, 2);
        Check.due("key 2, 0 in the snapshot", x.disk(1, 1, 12), 0xF1);
        Check.due("its last row is last", x.disk(1, 11, 2), 1);
        Check.due("none before it", x.disk(1, 10, 2), 0);
        Check.due("and in the group", x.disk(1, 12, 12), 0xF2);
        Check.due("rows of the snapshot", number(x, 1, 0, 12), 11);
        Check.due("nothing behind that", x.disk(1, 0, 16), 0);
        Check.due("kind of the head", x.disk(1, 0, 0), 0);
        Check.due("it is last", x.disk(1, 0, 2), 1);
        Check.due("its number", number(x, 1, 0, 4), 0);
        Check.due("its generation", number(x, 1, 0, 8), 2);
        Check.due("its check", isRight(x, 1, 0), true);
        // Time goes on, but is written at the day's end alone.
        KeptHouse y = new KeptHouse(0L);
        y.pay(0, 5);
        fill(y, 200);
        y.run(100);
        y.flat(0, 0, 2);
        Check.due("key 9, 0 is the twelfth", y.disk(1, 12, 0), 9);
        Check.due("its time is that of the payment", y.disk(1, 12, 12), 0);
    }

    /** "In their order": kinds, then indices, whatever was written first. */
    private static void snapshotOfAllKinds() {
        KeptHouse x = new KeptHouse(0L);
        x.point(7, 3, 0);
        x.card(39, 0, 0, 0, false);
        x.door(0, 0);
        x.ticket(0, 0);
        x.life(2, 1);
        x.life(0, 1);
        x.price(0, 1);
        x.pay(9, 1);
        x.rate(0, 1, 1);
        x.load();
        x.sun(3, 0, 1);
        x.weather(23, 1);
        x.weather(0, 1);
        x.people(9, 0, 1);
        x.flat(4, 0, 1);
        x.edit(0, 4, 0, 1, 1, 3);
        x.merge(0);
        int keys = x.rows(3);
        for (int i = x.rows(2); i < 200; i++) {
            x.people(9, 0, 1);
        }
        x.people(9, 0, 2);
        int before = -1;
        Check.due("the keys", number(x, 1, 0, 12), keys);
        for (int row = 1; row <= keys; row++) {
            int key = x.disk(1, row, 0) * 256 + x.disk(1, row, 1);
            Check.due("in order, row " + row, key > before, true);
            Check.due("number", x.disk(1, row, 4), row);
            Check.due("last", x.disk(1, row, 2), row == keys ? 1 : 0);
            before = key;
        }
    }

    /** Snapshots go from area to area; old rows behind do not count. */
    private static void backAndForth() {
        KeptHouse x = new KeptHouse(0L);
        for (int generation = 1; generation <= 2; generation++) {
            for (int i = x.rows(2); i < 200; i++) {
                x.flat(0, 0, i % 10);
            }
            Check.due("full", x.rows(2), 200);
            x.flat(0, 0, 7);
            Check.due("area", x.rows(0), generation % 2);
            Check.due("generation", x.rows(1), generation + 1);
            Check.due("head, snapshot, group", x.rows(2), 3);
            Check.due("an old row or none stands behind", x.disk(generation % 2, 3, 0), generation == 1 ? 0 : 2);
            Check.due("it does not count", x.reopen(), 2);
            Check.due("flat", x.space(0, 3), 7);
        }
    }

    /** Ten keys and the head: wherever the power fails in them, the old area counts; behind them the new one. */
    private static void cutAtEachRowOfASnapshot() {
        for (int n = 0; n <= 12; n++) {
            KeptHouse x = new KeptHouse(0L);
            fill(x, 200);
            x.crash(n);
            Check.due("with " + n, x.flat(0, 0, 1), n < 12 ? CUT : 15);
            Check.due("down with " + n, x.isDown(), n < 12);
            Check.due("rows that count with " + n, x.reopen(), n < 11 ? 199 : n == 11 ? 10 : 11);
            Check.due("area with " + n, x.rows(0), n < 11 ? 0 : 1);
            Check.due("generation with " + n, x.rows(1), n < 11 ? 1 : 2);
            Check.due("flat with " + n, x.space(0, 3), n < 12 ? 15 : 1);
            Check.due("people with " + n, x.people(8, 198 % 24, 0), 198 % 21);
        }
    }

    private static void cutAtEachRowOfAGroup() {
        for (int n = 0; n <= 8; n++) {
            KeptHouse x = new KeptHouse(0L);
            x.flat(0, 0, 1);
            x.crash(n);
            Check.due("with " + n, x.load(), n < 8 ? CUT : 0);
            Check.due("rows that count with " + n, x.reopen(), n < 8 ? 1 : 9);
            Check.due("keys with " + n, x.rows(3), n < 8 ? 1 : 9);
            Check.due("rows with " + n, x.rows(2), n < 8 ? 2 : 10);
        }
    }

    /** "One more than the greatest of that in use and of what rows 0 and 1 of the other area tell." */
    private static void generationsThatWereTried() {
        KeptHouse x = new KeptHouse(0L);
        fill(x, 200);
        for (int tried = 2; tried < 6; tried++) {
            x.crash(tried);
            Check.due("cut", x.flat(0, 0, 1), CUT);
            x.reopen();
            Check.due("in use", x.rows(1), 1);
            Check.due("row 1 of the other area tells", number(x, 1, 1, 8), tried);
        }
        x.crash(10);
        x.flat(0, 0, 1);
        x.reopen();
        Check.due("row 0 tells, though it was cut", number(x, 1, 0, 8), 6);
        Check.due("and row 1", number(x, 1, 1, 8), 6);
        x.flat(0, 0, 1);
        Check.due("one more than that", x.rows(1), 7);
    }

    /** The first row of a snapshot is cut: row 1 tells its generation, row 0 an older one. */
    private static void cutFirstRowOfASnapshot() {
        KeptHouse x = new KeptHouse(0L);
        fill(x, 200);
        x.crash(0);
        Check.due("cut", x.flat(0, 0, 1), CUT);
        Check.due("the old area", x.reopen(), 199);
        Check.due("row 1 is cut", x.disk(1, 1, 3), 1);
        Check.due("row 1 tells 2", number(x, 1, 1, 8), 2);
        Check.due("row 0 tells nothing", number(x, 1, 0, 8), 0);
        x.flat(0, 0, 1);
        Check.due("generation 3", x.rows(1), 3);
        Check.due("row 1 is whole", isRight(x, 1, 1), true);
    }

    /** "Gets its first 24 bytes alone, with 1 as byte 3": those behind stay as they were. */
    private static void twentyFourBytes() {
        KeptHouse x = new KeptHouse(0L);
        for (int hour = 0; hour < 24; hour++) {
            x.people(0, hour, hour < 20 ? hour + 1 : 20);
        }
        x.crash(0);
        Check.due("cut", x.people(0, 0, 20), CUT);
        x.reopen();
        int row = x.rows(2);
        for (int hour = 0; hour < 12; hour++) {
            Check.due("written, hour " + hour, x.disk(0, row, 12 + hour), hour == 0 ? 20 : hour + 1);
        }
        for (int i = 24; i < 48; i++) {
            Check.due("not written, byte " + i, x.disk(0, row, i), 0);
        }
        Check.due("byte 3", x.disk(0, row, 3), 1);
        Check.due("number", number(x, 0, row, 4), row);
        // A row of a cut group that is written over by one that is cut: the later bytes stay.
        KeptHouse y = new KeptHouse(0L);
        y.crash(1);
        y.pay(0, 1);
        y.reopen();
        Check.due("the first row of the payment was whole", isRight(y, 0, 1), true);
        long check = number(y, 0, 1, 44);
        y.crash(0);
        y.sun(3, 0, 200);
        y.reopen();
        Check.due("kind", y.disk(0, 1, 0), 5);
        Check.due("its byte", y.disk(0, 1, 12), 200);
        Check.due("the old check", number(y, 0, 1, 44), check);
    }

    /** "When n more rows were written whole": 0, 1, 2; calls that write none do not count. */
    private static void crashCountsWholeRows() {
        for (int n = 0; n < 4; n++) {
            KeptHouse x = new KeptHouse(0L);
            x.crash(n);
            x.run(10);
            x.merge(0);
            x.mains(false);
            for (int i = 0; i < n; i++) {
                Check.due("whole", x.people(0, 0, 1), i == 0 ? 0 : 1);
            }
            Check.due("the next is cut", x.people(0, 0, 2), CUT);
            Check.due("rows that count", x.reopen(), n);
        }
    }

    /** The greatest n: loads of 8 rows, with snapshots of 8 keys and a head between, until 1000 are whole. */
    private static void aThousandRows() {
        KeptHouse x = new KeptHouse(0L);
        x.crash(1000);
        int written = 0;
        int used = 1;
        boolean cut = false;
        for (int i = 0; i < 200 && !cut; i++) {
            if (used + 8 > 200) {
                written += 9;
                used = 9;
            }
            written += 8;
            used += 8;
            cut = written > 1000;
            Check.due("load " + i, x.load(), cut ? CUT : 0);
        }
        Check.due("it came to that", cut, true);
    }

    /** "Whatever was said before; NONE: it does not." */
    private static void latestCrashCounts() {
        KeptHouse x = new KeptHouse(0L);
        x.crash(0);
        x.crash(1);
        x.flat(0, 0, 1);
        x.crash(1);
        Check.due("counted from now", x.flat(0, 0, 2), 1);
        x.crash(NONE);
        Check.due("not at all", x.flat(0, 0, 3), 2);
        Check.due("not later", x.load(), 0);
        x.crash(0);
        Check.due("at once", x.flat(0, 0, 4), CUT);
    }

    /** "What crash() said is forgotten" when the house begins anew. */
    private static void crashIsForgotten() {
        KeptHouse x = new KeptHouse(0L);
        x.crash(0);
        x.reopen();
        Check.due("by reopen", x.flat(0, 0, 1), 15);
        x.crash(0);
        x.flat(0, 0, 2);
        x.reopen();
        Check.due("by reopen when it was down", x.flat(0, 0, 3), 1);
        new Image().feed(x);
        x.crash(1);
        Check.due("put", x.put(), 0);
        Check.due("by put", x.flat(0, 0, 3), 15);
    }

    /** "REOPENING, whether the store is DOWN or not." */
    private static void reopenWhenUp() {
        KeptHouse x = new KeptHouse(0L);
        Check.due("nothing", x.reopen(), 0);
        x.pay(0, 1);
        x.run(5);
        Check.due("two rows", x.reopen(), 2);
        Check.due("time anew", x.state(10), 0);
        Check.due("balance", x.account(0, 0), 1);
    }

    private static void reopenTwice() {
        KeptHouse x = new KeptHouse(0L);
        x.crash(3);
        x.load();
        Check.due("down", x.isDown(), true);
        Check.due("once", x.reopen(), 0);
        Check.due("twice", x.reopen(), 0);
        x.flat(0, 0, 1);
        Check.due("then one", x.reopen(), 1);
        Check.due("and still one", x.reopen(), 1);
        Check.due("rows", x.rows(2), 2);
    }

    /** "Those behind the last one that is last do not count": rows of a cut group stay on the disk. */
    private static void oldRowsBehind() {
        KeptHouse x = new KeptHouse(0L);
        x.flat(0, 0, 1);
        x.crash(7);
        x.load();
        Check.due("one counts", x.reopen(), 1);
        Check.due("seven rows more stand there", isRight(x, 0, 8), true);
        x.flat(0, 0, 2);
        Check.due("two count", x.reopen(), 2);
        Check.due("the next group goes behind the last row that counts", x.rows(2), 3);
        x.load();
        Check.due("ten", x.reopen(), 10);
    }

    /** A group written whole ends before the cut one did: nothing of the old one counts, though it reads well. */
    private static void oldGroupsLastRowBehind() {
        KeptHouse x = new KeptHouse(0L);
        x.crash(7);
        x.load();
        x.reopen();
        for (int rows = 1; rows <= 7; rows++) {
            x.people(rows, 0, rows);
            Check.due("with " + rows, x.reopen(), rows);
            Check.due("keys with " + rows, x.rows(3), rows);
        }
    }

    /** Of several groups of one call those that were written whole are durable. */
    private static void groupsOfOneMinute() {
        for (int n = 0; n <= 4; n++) {
            KeptHouse x = new KeptHouse(0L);
            x.ticket(0, 0);
            x.tour(0);
            x.ticket(0, 0);
            x.tour(1);
            x.crash(n);
            Check.due("with " + n, x.run(20), n < 4 ? CUT : 20);
            x.reopen();
            Check.due("tickets with " + n, x.tickets(), n < 2 ? 2 : n < 4 ? 1 : 0);
            Check.due("care with " + n, x.money(3), n < 2 ? 0 : n < 4 ? 500 : 1000);
            Check.due("time with " + n, x.state(10), n < 2 ? 0 : 15);
        }
    }

    private static void downOrNot() {
        KeptHouse x = new KeptHouse(0L);
        Check.due("up", x.isDown(), false);
        x.crash(0);
        Check.due("not yet", x.isDown(), false);
        x.flat(0, 0, 1);
        Check.due("down", x.isDown(), true);
        Check.illegalState("before all else", () -> x.flat(-1, -1, -1));
        Check.due("still", x.isDown(), true);
        x.reopen();
        Check.due("up again", x.isDown(), false);
        Check.illegalArgument("now its arguments", () -> x.flat(-1, -1, -1));
    }

    /** Area 1 is in use: a snapshot to area 0 that is cut at any row, its head with them, leaves area 1. */
    private static void cutWhenAreaOneIsInUse() {
        for (int n = 0; n <= 4; n++) {
            KeptHouse x = new KeptHouse(0L);
            new Image().key(3, 0, 1).feed(x);
            x.put();
            Check.due("area 1", x.rows(0), 1);
            for (int i = x.rows(2); i < 200; i++) {
                x.flat(0, 0, i % 10);
            }
            x.crash(n);
            Check.due("with " + n, x.flat(0, 0, 7), n < 4 ? CUT : 9);
            Check.due("rows with " + n, x.reopen(), n < 3 ? 199 : n == 3 ? 2 : 3);
            Check.due("area with " + n, x.rows(0), n < 3 ? 1 : 0);
            Check.due("generation with " + n, x.rows(1), n < 3 ? 2 : 3);
            Check.due("flat with " + n, x.space(0, 3), n < 4 ? 9 : 7);
            Check.due("people with " + n, x.people(0, 0, 2), 1);
        }
    }
}
