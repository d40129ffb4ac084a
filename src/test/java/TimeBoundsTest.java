/** Boundary cases of time: hours, days, months, and what ends with them (promises 26 and 31). */
public final class TimeBoundsTest {
    public static void main(String[] args) {
        hours();
        endOfADay();
        endOfAMonth();
        billsBeforeTheDay();
        cutMinute();
        cutDay();
        lateTime();
        oneByOne();
        lastTime();
        Check.end();
    }

    /** "The HOUR t / 10 % 24 and the DAY t / 240": the minutes on both sides of each change. */
    private static void hours() {
        KeptHouse x = new KeptHouse(0L);
        Told.program(x, "s0=h+100;s1=t+50;");
        int[] times = {0, 9, 10, 19, 20, 229, 230, 239, 240, 249, 250, 479, 480};
        int[] due = {0, 0, 1, 1, 2, 22, 23, 23, 0, 0, 1, 23, 0};
        for (int i = 0; i < times.length; i++) {
            Told.runTo(x, times[i] + 1);
            Check.due("hour of the minute " + times[i], x.target(0), 100 + due[i]);
            Check.due("minute of the day", x.target(1), 50 + times[i] % 240);
        }
    }

    /** "A day ends when time comes to a multiple of 240": a group of 15 rows then, and none beside. */
    private static void endOfADay() {
        KeptHouse x = new KeptHouse(0L);
        Told.runTo(x, 239);
        Check.due("239", x.rows(2), 1);
        Check.due("the 240th", x.run(1), 240);
        Check.due("rows 8 of ten flats, 9, 10, 11 of three parts", x.rows(2), 16);
        int[] kinds = {8, 8, 8, 8, 8, 8, 8, 8, 8, 8, 9, 10, 11, 11, 11};
        for (int i = 0; i < 15; i++) {
            Check.due("kind of row " + i, x.disk(0, 1 + i, 0), kinds[i]);
            Check.due("index of row " + i, x.disk(0, 1 + i, 1), i < 10 ? i : i < 12 ? 0 : i - 12);
            Check.due("last", x.disk(0, 1 + i, 2), i == 14 ? 1 : 0);
        }
        Check.due("the time in it", x.disk(0, 11, 12), 240);
        x.run(1);
        Check.due("241", x.rows(2), 16);
        Told.runTo(x, 479);
        Check.due("479", x.rows(2), 16);
        x.run(1);
        Check.due("480", x.rows(2), 31);
        x.run(10);
        x.reopen();
        Check.due("the time is that of the day's end", x.state(10), 480);
    }

    /** "A MONTH when it comes to one of 2400": bills then, not a minute before. */
    private static void endOfAMonth() {
        KeptHouse x = new KeptHouse(0L);
        Told.program(x, "b=0;");
        x.ticket(0, 0);
        x.tour(0);
        Told.runTo(x, 2399);
        Check.due("care at 2399", x.money(3), 500);
        Check.due("cash at 2399", x.money(0), 0);
        Check.due("power at 2399", x.meter(10, 1), 2399 * 25);
        x.run(1);
        Check.due("care at 2400", x.money(3), 0);
        Check.due("cash at 2400", x.money(0), -500);
        Check.due("power at 2400", x.meter(10, 1), 0);
        x.run(1);
        Check.due("power at 2401", x.meter(10, 1), 25);
        Check.due("cash at 2401", x.money(0), -500);
        Told.runTo(x, 4799);
        Check.due("power at 4799", x.meter(10, 1), 2399 * 25);
        x.run(1);
        Check.due("power at 4800", x.meter(10, 1), 0);
    }

    /** "At the end of a day (behind bills)": the group has what the bills left. */
    private static void billsBeforeTheDay() {
        KeptHouse x = new KeptHouse(0L);
        new Image().key(9, 0, Image.join(Image.numbers(4, 2399), Image.numbers(8, 0, 0), Image.numbers(4, 0, 700)))
                .feed(x);
        Check.due("put", x.put(), 0);
        Check.due("time", x.state(10), 2399);
        x.run(1);
        x.reopen();
        Check.due("cash", x.money(0), -700);
        Check.due("lost", x.money(1), 700);
        Check.due("care", x.money(3), 0);
        Check.due("time then", x.state(10), 2400);
    }

    /** "A minute in which that happens is not ended; run() ends with it." */
    private static void cutMinute() {
        KeptHouse x = new KeptHouse(0L);
        x.ticket(0, 0);
        x.tour(0);
        x.crash(1);
        Check.due("the visit of the minute 15", x.run(120), KeptHouse.CUT);
        Check.due("down", x.isDown(), true);
        Check.illegalState("no minute", () -> x.run(1));
        x.reopen();
        Check.due("time anew", x.state(10), 0);
        Check.due("the ticket is there", x.tickets(), 1);
    }

    /** The group of a day is whole or not at all. */
    private static void cutDay() {
        for (int n : new int[] {0, 1, 14, 15}) {
            KeptHouse x = new KeptHouse(0L);
            Told.runTo(x, 239);
            x.crash(n);
            Check.due("with " + n + " rows", x.run(1), n < 15 ? KeptHouse.CUT : 240);
            x.reopen();
            Check.due("time with " + n, x.state(10), n < 15 ? 0 : 240);
        }
    }

    /** The greatest time that an image may tell; minutes go on from there. */
    private static void lateTime() {
        KeptHouse x = new KeptHouse(0L);
        new Image().key(9, 0, Image.numbers(4, 1000000)).feed(x);
        Check.due("put", x.put(), 0);
        Check.due("time", x.state(10), 1000000);
        Told.program(x, "s0=h+100;s1=t+50;");
        Check.due("120 more", x.run(120), 1000120);
        Check.due("the hour of 1000119", x.target(0), 100 + 100011 % 24);
        Check.due("the minute of the day", x.target(1), 50 + 1000119 % 240);
    }

    /** Minutes one by one and in one call are the same. */
    private static void oneByOne() {
        KeptHouse x = new KeptHouse(3L);
        KeptHouse y = new KeptHouse(3L);
        for (KeptHouse house : new KeptHouse[] {x, y}) {
            house.flat(0, 0, 0);
            house.people(0, 0, 20);
            house.ignite(1, 1);
        }
        Check.due("twelve", x.run(12), 12);
        for (int i = 1; i <= 12; i++) {
            Check.due("one by one", y.run(1), i);
        }
        for (int what = 0; what < 11; what++) {
            Check.due("state " + what, x.state(what), y.state(what));
        }
        for (int what = 0; what < 6; what++) {
            Check.due("cell " + what, x.cell(1, 1, what), y.cell(1, 1, what));
        }
    }

    /**
     * "Illegal state: also if the time would be more than 2000000." No 512 calls come so far, so that
     * this house alone is used for more of them: the class keeps the sentence all the same.
     */
    private static void lastTime() {
        KeptHouse x = new KeptHouse(0L);
        new Image().key(9, 0, Image.numbers(4, 1000000)).feed(x);
        x.put();
        Told.runTo(x, 1999960);
        Check.illegalState("41 are one too many", () -> x.run(41));
        Check.illegalArgument("what is named first", () -> x.run(121));
        Check.due("nothing was changed", x.state(10), 1999960);
        Check.due("39", x.run(39), 1999999);
        Check.illegalState("two are one too many", () -> x.run(2));
        Check.due("one", x.run(1), 2000000);
        Check.illegalState("no more", () -> x.run(1));
        Check.due("the last time", x.state(10), 2000000);
        Check.due("other calls go on", x.flat(0, 0, 1), 15);
        Check.due("an order can be given", x.order(0, 1), 2000480);
    }
}
