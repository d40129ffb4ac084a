/** Boundary cases of water: draws, the tank, the pump, the hot store (promise 31, and step 4 of a minute). */
public final class WaterBoundsTest {
    private static final int TANK = 3;
    private static final int WANTED = 4;
    private static final int STORED = 5;
    private static final int COOL = 6;
    private static final int PUMP_RAN = 8;
    private static final int DRY = 10;

    public static void main(String[] args) {
        belowFourTimes();
        seedsOfAllKinds();
        sixColdFourHot();
        tankRunsDry();
        wantedBelowFiveHundred();
        pumpStopsAtTwoThousand();
        pumpNeedsAll();
        storedRunsOut();
        storedHasLess();
        coolBelowFiveThousand();
        hotStoreIsFull();
        Check.end();
    }

    private static long seedOfDraw(int flat, int draw) {
        for (long seed = 0; seed < 1000000; seed++) {
            if (Told.draw(seed, 0, flat) == draw) {
                return seed;
            }
        }
        throw new IllegalStateException("no such seed");
    }

    /** "If it is below 4 times its PEOPLE": draws of 4 n - 1 and of 4 n. */
    private static void belowFourTimes() {
        for (int n : new int[] {1, 2, 10, 19, 20}) {
            for (int flat : new int[] {0, 9}) {
                for (int draw = 4 * n - 1; draw <= 4 * n; draw++) {
                    KeptHouse x = new KeptHouse(seedOfDraw(flat, draw));
                    x.flat(0, 0, flat);
                    x.people(flat, 0, n);
                    x.run(1);
                    Check.due(n + " people draw " + draw, x.meter(flat, 2), draw < 4 * n ? 10 : 0);
                    Check.due("the tank", x.state(TANK), draw < 4 * n ? 1990 : 2000);
                }
            }
        }
        KeptHouse y = new KeptHouse(seedOfDraw(0, 0));
        y.flat(0, 0, 0);
        y.run(1);
        Check.due("nobody draws 0", y.meter(0, 2), 0);
    }

    /** "64 bits, running over": seeds at both ends, and late times. */
    private static void seedsOfAllKinds() {
        long[] seeds = {Long.MIN_VALUE, -1, 0, 1, Long.MAX_VALUE, 0x9E3779B97F4A7C15L};
        for (long seed : seeds) {
            for (int time : new int[] {0, 239, 1000000}) {
                KeptHouse x = new KeptHouse(seed);
                new Image().key(9, 0, Image.numbers(4, time)).feed(x);
                x.put();
                int hour = time / 10 % 24;
                for (int flat = 0; flat < 10; flat++) {
                    x.flat(flat / 2, flat % 2 * 4, flat);
                }
                for (int storey = 0; storey < 5; storey++) {
                    x.edit(0, storey, 4, 6, 9, 1);
                }
                x.merge(0);
                for (int flat = 0; flat < 10; flat++) {
                    x.people(flat, hour, 10);
                }
                x.run(1);
                for (int flat = 0; flat < 10; flat++) {
                    boolean draws = Told.draw(seed, time, flat) < 40;
                    Check.due("seed " + seed + " at " + time + ", flat " + flat, x.meter(flat, 2), draws ? 10 : 0);
                }
            }
        }
    }

    private static void sixColdFourHot() {
        KeptHouse x = new KeptHouse(seedOfDraw(0, 0));
        x.flat(0, 0, 0);
        x.people(0, 0, 1);
        Told.program(x, "b=0;");
        x.run(1);
        Check.due("ten", x.meter(0, 2), 10);
        Check.due("four times 40", x.state(STORED), 20000 - 160);
        Check.due("2 MOIST for each hot one, 5 for the person", Told.sum(x, 0, 2), 13);
    }

    /** Five flats that may all draw at night and by day; none of their circuits ever trips. */
    private static KeptHouse crowded(long seed) {
        KeptHouse x = new KeptHouse(seed);
        for (int flat = 0; flat < 5; flat++) {
            x.flat(flat, 0, flat);
            x.rate(flat, 500, 0);
            for (int hour = 0; hour < 6; hour++) {
                x.people(flat, hour, 20);
            }
        }
        return x;
    }

    /** Runs until the tank has less than 60 above an amount, then with flat 0 alone until it has just that. */
    private static void drainTo(KeptHouse x, int amount) {
        for (int i = 0; i < 60 && x.state(TANK) >= amount + 60; i++) {
            x.run(1);
        }
        int now = x.state(10) / 10;
        for (int flat = 1; flat < 5; flat++) {
            for (int hour = now; hour < 6; hour++) {
                x.people(flat, hour, 0);
            }
        }
        for (int i = 0; i < 60 && x.state(TANK) > amount; i++) {
            x.run(1);
        }
        Check.due("drained to", x.state(TANK), amount);
    }

    private static boolean isNoted(KeptHouse x, int kind) {
        for (int k = 0; k < Math.min(32, x.alarms()); k++) {
            if (x.alarm(k, 0) == kind) {
                return true;
            }
        }
        return false;
    }

    /** "Each as far as the TANK has. If the TANK had less than it wished, the minute is DRY": 10 and 0. */
    private static void tankRunsDry() {
        KeptHouse x = crowded(5L);
        Told.program(x, "p=0;b=0;l=0;");
        drainTo(x, 10);
        for (int i = 0; i < 30 && x.state(TANK) > 0; i++) {
            x.run(1);
        }
        Check.due("the last ten", x.state(TANK), 0);
        Check.due("were all that was wished", isNoted(x, DRY), false);
        int water = x.meter(0, 2);
        int stored = x.state(STORED);
        for (int i = 0; i < 30 && !isNoted(x, DRY); i++) {
            x.run(1);
        }
        Check.due("now it is dry", isNoted(x, DRY), true);
        Check.due("nothing is metered", x.meter(0, 2), water);
        Check.due("no hot one either", x.state(STORED), stored);
        Check.due("and none below 0", x.state(TANK), 0);
    }

    /** "If the TANK is below 500 now, it is WANTED from now on": 500 and 490. */
    private static void wantedBelowFiveHundred() {
        KeptHouse x = crowded(5L);
        Told.program(x, "b=0;l=0;");
        drainTo(x, 500);
        Check.due("500 is not below", x.state(WANTED), 0);
        Check.due("it does not run", x.state(PUMP_RAN), 0);
        for (int i = 0; i < 30 && x.state(TANK) == 500; i++) {
            x.run(1);
        }
        Check.due("490, and 60 of the pump", x.state(TANK), 550);
        Check.due("wanted", x.state(WANTED), 1);
        Check.due("it ran", x.state(PUMP_RAN), 1);
        Check.due("and wore", x.part(1, 1), 1);
    }

    /** "The TANK gets 60 (2000 at most), and at 2000 it is wanted no more." */
    private static void pumpStopsAtTwoThousand() {
        KeptHouse x = crowded(5L);
        Told.program(x, "b=0;l=0;");
        drainTo(x, 500);
        for (int i = 0; i < 30 && x.state(TANK) == 500; i++) {
            x.run(1);
        }
        for (int hour = 0; hour < 6; hour++) {
            x.people(0, hour, 0);
        }
        x.run(24);
        Check.due("550 and 24 times 60", x.state(TANK), 1990);
        Check.due("still wanted, above 500", x.state(WANTED), 1);
        x.run(1);
        Check.due("2000 at most", x.state(TANK), 2000);
        Check.due("wanted no more", x.state(WANTED), 0);
        Check.due("it ran", x.state(PUMP_RAN), 1);
        x.run(1);
        Check.due("now it does not", x.state(PUMP_RAN), 0);
        Check.due("26 minutes of wear", x.part(1, 1), 26);
    }

    /** "If it is wanted, p is 1, the house's circuit is LIVE and the pump has not FAILED." */
    private static void pumpNeedsAll() {
        KeptHouse x = crowded(5L);
        Told.program(x, "b=0;l=0;p=0;");
        drainTo(x, 400);
        Check.due("wanted", x.state(WANTED), 1);
        Check.due("p is 0", x.state(PUMP_RAN), 0);
        for (int hour = 0; hour < 6; hour++) {
            x.people(0, hour, 0);
        }
        Told.program(x, "b=0;");
        x.rate(10, 1, 0);
        x.run(1);
        Check.due("p is 1, the house's circuit trips", x.state(PUMP_RAN), 1);
        x.run(1);
        Check.due("it is tripped", x.state(PUMP_RAN), 0);
        Check.due("wanted all the same", x.state(WANTED), 1);
        x.rate(10, 500, 0);
        x.reset(10);
        x.life(1, 2);
        x.run(1);
        Check.due("live again", x.state(PUMP_RAN), 1);
        Check.due("failed", x.part(1, 3), 1);
        x.run(1);
        Check.due("so it does not run", x.state(PUMP_RAN), 0);
        Check.due("the tank", x.state(TANK), 520);
    }

    /** How many draw in a minute, in the house of drainTo with all five flats. */
    private static int drawsAt(long seed, int time) {
        int n = 0;
        for (int flat = 0; flat < 5; flat++) {
            if (Told.draw(seed, time, flat) < 80) {
                n++;
            }
        }
        return n;
    }

    /** "Each hot one takes 40 of STORED, as far as that has it": 125 draws take just all of it. */
    private static void storedRunsOut() {
        KeptHouse x = crowded(5L);
        Told.program(x, "b=0;l=0;");
        int stored = 20000;
        for (int t = 0; t < 40; t++) {
            stored = Math.max(0, stored - 160 * drawsAt(5L, t));
            x.run(1);
            Check.due("stored at " + t, x.state(STORED), stored);
        }
        Check.due("none is left", stored, 0);
    }

    /** 40 came from the boiler, so that at last a draw finds 40 for its 160. */
    private static void storedHasLess() {
        KeptHouse x = crowded(5L);
        x.price(0, 40);
        Told.program(x, "l=0;s0=50;s1=50;s2=50;s3=50;s4=50;");
        x.run(1);
        int stored = 20000 - 160 * drawsAt(5L, 0) + 40;
        Check.due("40 back", x.state(STORED), stored);
        Told.program(x, "b=0;l=0;");
        boolean had40 = false;
        for (int t = 1; t < 45; t++) {
            for (int flat = 0; flat < 5; flat++) {
                if (Told.draw(5L, t, flat) < 80) {
                    had40 = had40 || stored == 40;
                    stored = Math.max(0, stored - 160);
                }
            }
            x.run(1);
            Check.due("stored at " + t, x.state(STORED), stored);
        }
        Check.due("40 were left for a draw", had40, true);
        Check.due("water is drawn all the same", x.meter(0, 2) > 0, true);
    }

    /** "If STORED is below 5000, the COOL minutes grow by 1, else they are 0": 5000 and 4999. */
    private static void coolBelowFiveThousand() {
        for (int cap = 39; cap <= 40; cap++) {
            KeptHouse x = new KeptHouse(Told.seed(0, 20, true));
            x.flat(0, 0, 0);
            Told.people(x, 0, 20);
            x.price(0, cap);
            Told.program(x, "s0=50;l=0;");
            x.run(1);
            Check.due("so much came back", x.state(STORED), 19840 + cap);
            Told.program(x, "b=0;l=0;");
            for (int i = 0; i < 200 && x.state(STORED) > 5000; i++) {
                x.run(1);
            }
            Check.due("93 draws more", x.state(STORED), 4960 + cap);
            Check.due("cool", x.state(COOL), cap == 40 ? 0 : 1);
            for (int hour = 0; hour < 24; hour++) {
                x.people(0, hour, 0);
            }
            x.run(2);
            Check.due("two minutes more", x.state(COOL), cap == 40 ? 0 : 3);
            x.price(0, 41 - cap);
            Told.program(x, "s0=50;l=0;");
            x.run(1);
            // What comes from the boiler in this minute is looked at in the next one.
            Check.due("as the minute found it", x.state(COOL), cap == 40 ? 0 : 4);
            x.run(1);
            Check.due("5000 at least now", x.state(COOL), 0);
        }
    }

    /** STORED is 20000 at most: its need is what is lacking, 300 at most. */
    private static void hotStoreIsFull() {
        KeptHouse x = new KeptHouse(Told.seed(0, 20, true));
        x.flat(0, 0, 0);
        x.people(0, 0, 20);
        Told.program(x, "s0=50;l=0;");
        x.run(1);
        Check.due("160 lacked", x.state(7), 160);
        Check.due("full", x.state(STORED), 20000);
        x.people(0, 0, 0);
        x.run(1);
        Check.due("none lacks", x.state(7), 0);
        Check.due("still full", x.state(STORED), 20000);
        for (int start : new int[] {299, 300, 301}) {
            KeptHouse y = crowded(5L);
            Told.program(y, "b=0;l=0;");
            y.run(1);
            for (int flat = 0; flat < 5; flat++) {
                y.people(flat, 0, 0);
            }
            // The boiler's cap is told so that at last just so much is lacking.
            int lacking = 20000 - y.state(STORED);
            Told.program(y, "l=0;s0=50;s1=50;s2=50;s3=50;s4=50;");
            while (lacking > start) {
                y.price(0, Math.min(300, lacking - start));
                y.run(1);
                lacking = 20000 - y.state(STORED);
            }
            Check.due("lacking", lacking, start);
            y.price(0, 5000);
            y.run(1);
            Check.due("given of " + start, y.state(7), Math.min(300, start));
        }
    }
}
