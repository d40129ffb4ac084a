/** Promises 35 and 36 (alarms, alarm), and step 9 of a minute. */
public final class AlarmsTest {
    public static void main(String[] args) {
        none();
        coldFlat();
        coldFlatBeginsAnew();
        trippedAndShed();
        failed();
        stuffy();
        smoke();
        latestNotes();
        Check.end();
    }

    /** How often an alarm of a kind is among the notes that are kept. */
    private static int count(KeptHouse x, int kind) {
        int n = 0;
        for (int k = 0; k < Math.min(32, x.alarms()); k++) {
            if (x.alarm(k, 0) == kind) {
                n++;
            }
        }
        return n;
    }

    private static void latest(KeptHouse x, int kind, int time) {
        Check.due("kind", x.alarm(0, 0), kind);
        Check.due("time of " + kind, x.alarm(0, 1), time);
    }

    private static void none() {
        KeptHouse x = new KeptHouse(0L);
        x.run(20);
        Check.due("none", x.alarms(), 0);
        Check.illegalArgument("none is kept", () -> x.alarm(0, 0));
        Check.illegalArgument("below 0", () -> x.alarm(-1, 0));
    }

    /** A set of 300 with no boiler: 120 below it at once, so the 30th minute is that of time 29. */
    private static void coldFlat() {
        KeptHouse x = new KeptHouse(0L);
        x.flat(2, 0, 6);
        Told.program(x, "s6=300;b=0;");
        x.run(29);
        Check.due("not yet", x.alarms(), 0);
        x.run(1);
        Check.due("noted", x.alarms(), 1);
        latest(x, 6, 29);
        x.run(30);
        Check.due("noted once", x.alarms(), 1);
        Told.program(x, "b=0;");
        x.run(1);
        Told.program(x, "s6=300;b=0;");
        x.run(30);
        Check.due("noted anew", x.alarms(), 2);
        latest(x, 6, 90);
        Check.due("the one before", x.alarm(1, 1), 29);
        Check.illegalArgument("no third", () -> x.alarm(2, 0));
        Check.illegalArgument("what 2", () -> x.alarm(0, 2));
        Check.illegalArgument("what -1", () -> x.alarm(0, -1));
        x.reopen();
        Check.due("none anew", x.alarms(), 0);
    }

    private static void coldFlatBeginsAnew() {
        KeptHouse x = new KeptHouse(0L);
        Told.weather(x, 180);
        x.flat(0, 0, 0);
        Told.program(x, "s0=210;b=0;");
        x.run(40);
        Check.due("30 below is not more than 30", x.alarms(), 0);
        Told.program(x, "s0=211;b=0;");
        x.run(29);
        x.flat(0, 0, 15);
        x.run(1);
        x.flat(0, 0, 0);
        x.run(29);
        Check.due("counted anew without a heart", x.alarms(), 0);
        x.flat(1, 0, 0);
        x.flat(0, 0, 15);
        x.run(1);
        Check.due("counted for the flat, whichever its heart", x.alarms(), 1);
        latest(x, 0, 99);
    }

    private static void trippedAndShed() {
        KeptHouse x = new KeptHouse(0L);
        x.rate(10, 1, 0);
        x.run(1);
        Check.due("tripped", x.alarms(), 1);
        latest(x, 12, 0);
        x.run(5);
        Check.due("once", x.alarms(), 1);
        x.reset(10);
        x.rate(10, 100, 0);
        x.run(1);
        x.flat(0, 0, 0);
        x.people(0, 0, 20);
        x.rate(0, 500, 0);
        x.mains(false);
        x.run(2);
        // 1500 and 7 times 30, less 613 and 643; then 454 and the 150 of the engine are too few for 643.
        Check.due("not shed yet", x.alarms(), 1);
        x.fuel(0);
        x.run(1);
        Check.due("a circuit was shed", x.alarms(), 2);
        latest(x, 14, 9);
        x.mains(true);
        x.run(1);
        x.mains(false);
        x.run(1);
        Check.due("shed again", x.alarms(), 3);
        latest(x, 14, 11);
    }

    private static void failed() {
        KeptHouse x = new KeptHouse(0L);
        x.flat(0, 0, 0);
        x.life(0, 2);
        x.run(1);
        Check.due("not yet", x.alarms(), 0);
        x.run(1);
        latest(x, 13, 1);
        Check.due("one", x.alarms(), 1);
    }

    /** More than 1000 for each cell of a heart. */
    private static void stuffy() {
        KeptHouse x = new KeptHouse(0L);
        Told.room(x, 0, 0);
        x.flat(0, 0, 0);
        x.people(0, 0, 20);
        Told.program(x, "v=0;l=0;");
        x.run(2);
        Check.due("800", x.cell(0, 0, 1), 800);
        Check.due("not yet", count(x, 15), 0);
        x.run(1);
        Check.due("1200", x.cell(0, 0, 1), 1200);
        Check.due("stuffy", count(x, 15), 1);
        KeptHouse y = new KeptHouse(0L);
        Told.room(y, 0, 0);
        y.flat(0, 0, 0);
        y.people(0, 0, 10);
        Told.program(y, "v=0;l=0;");
        y.run(5);
        Check.due("just 1000", y.cell(0, 0, 1), 1000);
        Check.due("not more than 1000", count(y, 15), 0);
    }

    private static void smoke() {
        KeptHouse x = new KeptHouse(0L);
        Told.room(x, 0, 9);
        Told.program(x, "v=0;x=0;");
        x.ignite(0, 9);
        x.run(1);
        Check.due("not yet", x.alarms(), 0);
        x.run(1);
        Check.due("detected", x.alarms(), 1);
        latest(x, 16, 1);
    }

    /** 40 notes, of which the latest 32 are kept. */
    private static void latestNotes() {
        KeptHouse x = new KeptHouse(0L);
        for (int i = 0; i < 40; i++) {
            x.rate(10, 1, 0);
            x.run(1);
            x.rate(10, 100, 0);
            x.reset(10);
            x.run(1);
        }
        Check.due("all are counted", x.alarms(), 40);
        for (int k = 0; k < 32; k++) {
            Check.due("time of the latest but " + k, x.alarm(k, 1), 78 - 2 * k);
        }
        Check.illegalArgument("33rd", () -> x.alarm(32, 0));
    }
}
