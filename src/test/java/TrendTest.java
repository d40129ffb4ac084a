/** Promises 43 and 44: points and their values. */
public final class TrendTest {
    public static void main(String[] args) {
        telling();
        values();
        noHeart();
        latest();
        gasBeforeBills();
        wrongArguments();
        Check.end();
    }

    private static void telling() {
        KeptHouse x = new KeptHouse(0L);
        Check.due("told", x.point(7, 2, 10), 0);
        Check.due("kind", x.disk(0, 1, 0), 15);
        Check.due("index", x.disk(0, 1, 1), 7);
        Check.due("there", x.disk(0, 1, 12), 1);
        Check.due("its kind", x.disk(0, 1, 13), 2);
        Check.due("its index", x.disk(0, 1, 14), 10);
        Check.illegalArgument("no value yet", () -> x.trend(7, 0));
        x.run(9);
        Check.illegalArgument("the hour is not over", () -> x.trend(7, 0));
        x.run(1);
        Check.due("the load", x.trend(7, 0), 25);
        x.point(7, 3, 0);
        Check.illegalArgument("told anew: its values go", () -> x.trend(7, 0));
        x.run(10);
        Check.due("the tank", x.trend(7, 0), 2000);
        x.reopen();
        Check.illegalArgument("no values anew", () -> x.trend(7, 0));
        x.run(10);
        Check.due("but it is told", x.trend(7, 0), 2000);
        x.crash(0);
        Check.due("cut", x.point(0, 3, 0), KeptHouse.CUT);
        x.reopen();
        x.run(10);
        Check.illegalArgument("not told", () -> x.trend(0, 0));
    }

    private static void values() {
        KeptHouse x = new KeptHouse(4L);
        x.flat(1, 0, 2);
        Told.people(x, 2, 20);
        x.point(0, 0, 2);
        x.point(1, 1, 2);
        x.point(2, 2, 2);
        x.point(3, 3, 0);
        x.point(4, 4, 0);
        x.point(5, 5, 0);
        x.point(6, 6, 0);
        x.run(10);
        long stale = 0;
        for (int cell = 0; cell < 48; cell++) {
            stale += x.cell(1, cell, 1);
        }
        Check.due("warmth", x.trend(0, 0), x.space(1, 6));
        Check.due("stale, all of it", x.trend(1, 0), stale);
        Check.due("load", x.trend(2, 0), x.circuit(2, 0));
        Check.due("tank", x.trend(3, 0), x.state(3));
        Check.due("stored", x.trend(4, 0), x.state(5));
        Check.due("charge", x.trend(5, 0), 1800);
        Check.due("gas", x.trend(6, 0), x.money(2));
        Check.due("gas is there", x.money(2) > 0, true);
        Check.due("stale is there", stale > 0, true);
    }

    private static void noHeart() {
        KeptHouse x = new KeptHouse(0L);
        x.point(0, 0, 9);
        x.point(1, 1, 9);
        x.run(10);
        Check.due("no warmth", x.trend(0, 0), 0);
        Check.due("no stale air", x.trend(1, 0), 0);
    }

    /** CHARGE grows by 300 an hour: 1800, 2100, .. 3000; the latest 48 are kept. */
    private static void latest() {
        KeptHouse x = new KeptHouse(0L);
        x.point(0, 5, 0);
        x.run(30);
        Check.due("latest", x.trend(0, 0), 2400);
        Check.due("the one before", x.trend(0, 1), 2100);
        Check.due("the first", x.trend(0, 2), 1800);
        Check.illegalArgument("no more", () -> x.trend(0, 3));
        x.run(120);
        x.run(120);
        x.run(120);
        x.run(100);
        // 49 values: the first of them is kept no more.
        Check.due("the second of all", x.trend(0, 47), 2100);
        Check.illegalArgument("the first of all", () -> x.trend(0, 48));
    }

    /** At the end of a month points are noted before the bills. */
    private static void gasBeforeBills() {
        KeptHouse x = new KeptHouse(0L);
        x.flat(0, 0, 0);
        x.point(0, 6, 0);
        for (int i = 0; i < 20; i++) {
            x.run(120);
        }
        Check.due("a month", x.state(10), 2400);
        Check.due("gas is 0 now", x.money(2), 0);
        Check.due("its value was noted", x.trend(0, 0) > x.trend(0, 1), true);
    }

    private static void wrongArguments() {
        KeptHouse x = new KeptHouse(0L);
        x.point(0, 0, 0);
        x.run(10);
        Check.illegalArgument("point 8", () -> x.point(8, 0, 0));
        Check.illegalArgument("point -1", () -> x.point(-1, 0, 0));
        Check.illegalArgument("kind 7", () -> x.point(0, 7, 0));
        Check.illegalArgument("kind -1", () -> x.point(0, -1, 0));
        Check.illegalArgument("flat 10", () -> x.point(0, 0, 10));
        Check.illegalArgument("flat 10 of stale", () -> x.point(0, 1, 10));
        Check.illegalArgument("circuit 11", () -> x.point(0, 2, 11));
        for (int kind = 3; kind < 7; kind++) {
            int k = kind;
            Check.illegalArgument("index 1 of " + kind, () -> x.point(0, k, 1));
        }
        Check.illegalArgument("index -1", () -> x.point(0, 3, -1));
        Check.due("values stay", x.trend(0, 0), 0);
        Check.illegalArgument("trend 8", () -> x.trend(8, 0));
        Check.illegalArgument("trend -1", () -> x.trend(-1, 0));
        Check.illegalArgument("i -1", () -> x.trend(0, -1));
        Check.illegalArgument("never told", () -> x.trend(1, 0));
    }
}
