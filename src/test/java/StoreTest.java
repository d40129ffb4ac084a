import java.util.zip.CRC32;

/** Promises 56 to 60: crash, reopen, isDown, rows, disk; and the form of the disk. */
public final class StoreTest {
    public static void main(String[] args) {
        firstDisk();
        rowForm();
        crashing();
        crashForgotten();
        halfGroups();
        cutRowStays();
        snapshot();
        snapshotIsCut();
        headIsCut();
        everyCrash();
        beginsAnew();
        wrongArguments();
        Check.end();
    }

    private static long number(KeptHouse x, int area, int row, int at) {
        long n = 0;
        for (int i = 3; i >= 0; i--) {
            n = n * 256 + x.disk(area, row, at + i);
        }
        return n;
    }

    private static boolean isRight(KeptHouse x, int area, int row) {
        CRC32 sum = new CRC32();
        for (int i = 0; i < 44; i++) {
            sum.update(x.disk(area, row, i));
        }
        return sum.getValue() == number(x, area, row, 44);
    }

    private static void firstDisk() {
        KeptHouse x = new KeptHouse(0L);
        Check.due("head", isRight(x, 0, 0), true);
        for (int i = 0; i < 44; i++) {
            Check.due("byte " + i, x.disk(0, 0, i), i == 2 || i == 8 ? 1 : 0);
        }
        for (int i = 0; i < 48; i++) {
            Check.due("the other area", x.disk(1, 0, i), 0);
            Check.due("the last row", x.disk(0, 199, i), 0);
        }
        Check.due("reopen", x.reopen(), 0);
        Check.due("rows", x.rows(2), 1);
    }

    private static void rowForm() {
        KeptHouse x = new KeptHouse(0L);
        x.flat(3, 1, 2);
        x.rate(1, 2, 3);
        for (int row = 1; row < 4; row++) {
            Check.due("sum of " + row, isRight(x, 0, row), true);
            Check.due("number of " + row, number(x, 0, row, 4), row);
            Check.due("generation of " + row, number(x, 0, row, 8), 1);
            Check.due("not cut", x.disk(0, row, 3), 0);
            for (int i = 40; i < 44; i++) {
                Check.due("bytes 40 to 43", x.disk(0, row, i), 0);
            }
        }
        Check.due("keys", x.rows(3), 3);
        x.flat(3, 1, 2);
        Check.due("the same key", x.rows(3), 3);
        Check.due("but a row more", x.rows(2), 5);
    }

    private static void crashing() {
        KeptHouse x = new KeptHouse(0L);
        x.people(0, 0, 1);
        x.crash(1);
        Check.due("not down", x.isDown(), false);
        Check.due("one more is whole", x.people(0, 0, 2), 1);
        Check.due("then", x.people(0, 20, 3), KeptHouse.CUT);
        Check.due("down", x.isDown(), true);
        Check.illegalState("nothing can be asked", () -> x.disk(0, 0, 0));
        Check.due("two rows count", x.reopen(), 2);
        Check.due("up", x.isDown(), false);
        // The cut row: 24 bytes with byte 3, nothing behind them.
        Check.due("kind", x.disk(0, 3, 0), 3);
        Check.due("last", x.disk(0, 3, 2), 1);
        Check.due("cut", x.disk(0, 3, 3), 1);
        Check.due("number", x.disk(0, 3, 4), 3);
        Check.due("hour 0", x.disk(0, 3, 12), 2);
        Check.due("hour 20 is behind the cut", x.disk(0, 3, 32), 0);
        Check.due("no check", number(x, 0, 3, 44), 0);
        Check.due("as before", x.people(0, 20, 9), 0);
        Check.due("written there", x.disk(0, 3, 32), 9);
        Check.due("whole", x.disk(0, 3, 3), 0);
        Check.due("rows", x.rows(2), 4);
    }

    private static void crashForgotten() {
        KeptHouse x = new KeptHouse(0L);
        x.crash(0);
        x.crash(KeptHouse.NONE);
        Check.due("it does not fail", x.people(0, 0, 1), 0);
        x.crash(0);
        x.crash(2);
        x.people(0, 0, 1);
        x.people(0, 0, 1);
        Check.due("the latest counts", x.people(0, 0, 1), KeptHouse.CUT);
        x.reopen();
        x.crash(0);
        x.reopen();
        Check.due("forgotten", x.people(0, 0, 1), 1);
        x.crash(0);
        Check.due("calls that write nothing go on", x.run(120), 120);
    }

    private static void halfGroups() {
        KeptHouse x = new KeptHouse(0L);
        x.flat(0, 0, 1);
        for (int n = 0; n < 8; n++) {
            x.crash(n);
            Check.due("cut after " + n, x.load(), KeptHouse.CUT);
            Check.due("the row before counts", x.reopen(), 1);
            Check.due("keys", x.rows(3), 1);
        }
        x.crash(8);
        Check.due("just whole", x.load(), 0);
        Check.due("nine", x.reopen(), 9);
    }

    /** Rows of an old group that stand behind a new one do not count. */
    private static void cutRowStays() {
        KeptHouse x = new KeptHouse(0L);
        x.crash(6);
        x.load();
        Check.due("none", x.reopen(), 0);
        x.flat(0, 0, 1);
        Check.due("an old row stands behind it", x.disk(0, 2, 0), 6);
        Check.due("one", x.reopen(), 1);
        Check.due("keys", x.rows(3), 1);
        x.flat(0, 0, 2);
        Check.due("two", x.reopen(), 2);
    }

    private static void fill(KeptHouse x, int rows) {
        int n = 0;
        while (x.rows(2) < rows) {
            x.people(n % 10, n % 24, n % 21);
            n++;
        }
    }

    private static void snapshot() {
        KeptHouse x = new KeptHouse(0L);
        x.ticket(1, 1);
        x.card(5, 1, 2, 3, false);
        fill(x, 199);
        Check.due("area", x.rows(0), 0);
        Check.due("keys", x.rows(3), 12);
        x.flat(0, 0, 3);
        Check.due("full", x.rows(2), 200);
        Check.due("still area 0", x.rows(0), 0);
        x.flat(0, 0, 4);
        Check.due("the other area", x.rows(0), 1);
        Check.due("generation", x.rows(1), 2);
        Check.due("13 keys, and one row", x.rows(2), 15);
        Check.due("rows of the snapshot", number(x, 1, 0, 12), 13);
        Check.due("its head", isRight(x, 1, 0), true);
        Check.due("its generation", number(x, 1, 0, 8), 2);
        Check.due("first key", x.disk(1, 1, 0), 2);
        Check.due("as it was written last", x.disk(1, 1, 12), 0xF3);
        Check.due("second key", x.disk(1, 2, 0), 3);
        Check.due("the last but one", x.disk(1, 12, 0), 12);
        Check.due("the last key", x.disk(1, 13, 0), 14);
        Check.due("is last", x.disk(1, 13, 2), 1);
        Check.due("others are not", x.disk(1, 12, 2), 0);
        Check.due("then the group", x.disk(1, 14, 12), 0xF4);
        Check.due("reopen", x.reopen(), 14);
        Check.due("area then", x.rows(0), 1);
        Check.due("flat", x.space(0, 3), 4);
        Check.due("ticket", x.tickets(), 1);
    }

    private static void snapshotIsCut() {
        KeptHouse x = new KeptHouse(0L);
        fill(x, 200);
        x.crash(4);
        Check.due("cut", x.flat(0, 0, 1), KeptHouse.CUT);
        Check.due("the old area counts", x.reopen(), 199);
        Check.due("area", x.rows(0), 0);
        Check.due("a generation that was tried", number(x, 1, 1, 8), 2);
        x.flat(0, 0, 2);
        Check.due("the next one", x.rows(1), 3);
        Check.due("in area 1", x.rows(0), 1);
        Check.due("durable", x.reopen(), 11);
        Check.due("flat", x.space(0, 3), 2);
    }

    /** Ten keys, then the head: it is the 11th row. The group's row is the 12th. */
    private static void headIsCut() {
        KeptHouse x = new KeptHouse(0L);
        fill(x, 200);
        x.crash(10);
        Check.due("cut", x.flat(0, 0, 1), KeptHouse.CUT);
        Check.due("the old area counts", x.reopen(), 199);
        Check.due("the head is cut", x.disk(1, 0, 3), 1);
        x.crash(11);
        Check.due("cut behind the head", x.flat(0, 0, 1), KeptHouse.CUT);
        Check.due("the new area counts", x.reopen(), 10);
        Check.due("area", x.rows(0), 1);
        Check.due("generation", x.rows(1), 3);
        Check.due("flat as before", x.space(0, 3), 15);
    }

    /** Wherever the power fails, what was answered is there, and the cut call is whole or not there. */
    private static void everyCrash() {
        for (int n = 0; n < 40; n++) {
            KeptHouse x = new KeptHouse(0L);
            fill(x, 195);
            x.crash(n);
            int told = 15;
            int flat = 0;
            while (!x.isDown()) {
                flat = (flat + 1) % 10;
                if (x.flat(0, 0, flat) == KeptHouse.CUT) {
                    break;
                }
                told = flat;
                if (x.rate(0, 200 + flat, 1) == KeptHouse.CUT) {
                    break;
                }
            }
            Check.due("down", x.isDown(), true);
            x.reopen();
            Check.due("flat after " + n, x.space(0, 3), told);
            int rating = x.circuit(0, 4);
            Check.due("rating after " + n, rating == 200 + told || rating == 200 + (told + 9) % 10 || rating == 100, true);
            Check.due("rank is of the same group", x.circuit(0, 5), rating == 100 ? 0 : 1);
        }
    }

    private static void beginsAnew() {
        KeptHouse x = new KeptHouse(0L);
        x.edit(0, 0, 4, 6, 9, 1);
        x.merge(0);
        x.edit(1, 0, 1, 1, 1, 2);
        x.flat(0, 0, 0);
        x.people(0, 0, 20);
        x.mains(false);
        x.ignite(0, 0);
        x.fuel(50);
        x.image();
        x.feed(1);
        x.type('a');
        x.run(50);
        x.reopen();
        Check.due("version", x.version(), 0);
        Check.due("plan", x.edge(0, 4), 1);
        Check.due("desks have the plan", x.draft(2, 0, 4), 1);
        Check.due("drafts are gone", x.draft(1, 0, 1), 0);
        Check.due("no conflict", x.merge(1), 1);
        Check.due("time", x.state(10), 0);
        Check.due("heat", x.cell(0, 0, 0), 18000);
        Check.due("stale", x.cell(0, 0, 1), 0);
        Check.due("flame", x.cell(0, 0, 4), 0);
        Check.due("tank", x.state(3), 2000);
        Check.due("stored", x.state(5), 20000);
        Check.due("charge", x.state(0), 1500);
        Check.due("fuel", x.state(1), 100);
        Check.due("without", x.state(2), 0);
        Check.due("load", x.circuit(10, 0), 0);
        Check.due("tripped", x.circuit(0, 2), 0);
        Check.due("meters", x.meter(0, 1), 0);
        Check.due("alarms", x.alarms(), 0);
        Check.due("text", x.wipe(), 0);
        Check.due("reel", x.empty(), 0);
        Check.illegalArgument("tape", () -> x.tape(0));
        Check.due("flat", x.space(0, 3), 0);
        Check.due("people", x.people(0, 0, 0), 20);
    }

    private static void wrongArguments() {
        KeptHouse x = new KeptHouse(0L);
        Check.illegalArgument("crash -2", () -> x.crash(-2));
        Check.illegalArgument("crash 1001", () -> x.crash(1001));
        x.crash(1000);
        Check.illegalArgument("rows -1", () -> x.rows(-1));
        Check.illegalArgument("rows 4", () -> x.rows(4));
        Check.illegalArgument("area 2", () -> x.disk(2, 0, 0));
        Check.illegalArgument("area -1", () -> x.disk(-1, 0, 0));
        Check.illegalArgument("row 200", () -> x.disk(0, 200, 0));
        Check.illegalArgument("row -1", () -> x.disk(0, -1, 0));
        Check.illegalArgument("byte 48", () -> x.disk(0, 0, 48));
        Check.illegalArgument("byte -1", () -> x.disk(0, 0, -1));
    }
}
