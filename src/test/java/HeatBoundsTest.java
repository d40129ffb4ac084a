/** Boundary cases of heat: warmths, flows, needs, the boiler's shares (step 5 of a minute; promises 11, 31, 32). */
public final class HeatBoundsTest {
    private static final int[] WEIGHTS = {1, 3, 1, 5};
    private static final int BOILER_GAVE = 7;

    public static void main(String[] args) {
        warmthBelowZero();
        outwardRoundedToZero();
        roofs();
        extremesOfWeather();
        smallFlows();
        allFlows();
        peopleAndLoads();
        noLoadWhenTripped();
        needAtLeastZero();
        needAtMostSixty();
        needOfAStorey();
        unletToHundredFifty();
        capMet();
        capZero();
        boilerSwitches();
        gasRoundedUp();
        restsOfShares();
        hotStoreIsLast();
        leftOverOnCells();
        Check.end();
    }

    private static KeptHouse house() {
        return new KeptHouse(0L);
    }

    /** "BY n: rounded down to the next whole number not greater (also below 0)." */
    private static void warmthBelowZero() {
        KeptHouse x = house();
        Told.room(x, 4, 7);
        Told.weather(x, -400);
        Told.program(x, "b=0;");
        int k = x.spaceAt(4, 7);
        for (int i = 0; i < 3; i++) {
            x.run(120);
        }
        boolean uneven = false;
        for (int i = 0; i < 10; i++) {
            x.run(1);
            long heat = x.cell(4, 7, 0);
            Check.due("below 0", heat < 0, true);
            Check.due("warmth of " + heat, x.space(k, 6), Math.floorDiv(heat, 100L));
            uneven = uneven || heat % 100 != 0;
        }
        Check.due("it had to be rounded", uneven, true);
    }

    /** "By 10, rounded to 0, goes out": two HEAVY edges, less and more than 10, both ways. */
    private static void outwardRoundedToZero() {
        int[] weathers = {180, 179, 176, 175, 174, 171, 170, 181, 184, 185, 186, 189, 190};
        int[] out = {0, 0, 0, 1, 1, 1, 2, 0, 0, -1, -1, -1, -2};
        for (int i = 0; i < weathers.length; i++) {
            KeptHouse x = house();
            Told.room(x, 1, 0);
            x.weather(0, weathers[i]);
            x.run(1);
            Check.due("weather " + weathers[i], x.cell(1, 0, 0), 18000 - out[i]);
        }
    }

    /** "1 for each cell in storey 4", and for none below. */
    private static void roofs() {
        for (int storey = 0; storey < 5; storey++) {
            KeptHouse x = house();
            Told.room(x, storey, 9);
            x.weather(0, 130);
            x.run(1);
            Check.due("a room within, storey " + storey, x.cell(storey, 9, 0), storey == 4 ? 17995 : 18000);
        }
    }

    private static void extremesOfWeather() {
        for (int v : new int[] {-400, 500}) {
            KeptHouse x = house();
            x.weather(0, v);
            x.run(1);
            Check.due("storey 0 at " + v, Told.sum(x, 0, 0), 864000 - (180 - v) * 28 / 10);
            Check.due("storey 4 at " + v, Told.sum(x, 4, 0), 864000 - (180 - v) * 76 / 10);
        }
    }

    /** A room of one cell that is d warmer than all else: what goes by each kind of wall, up, down and out. */
    private static void smallFlows() {
        for (int kind = 1; kind < 4; kind++) {
            for (int cell : new int[] {0, 47}) {
                for (int n = 0; n <= 20; n++) {
                    KeptHouse x = new KeptHouse(Told.seed(0, 20, false));
                    int edge = cell / 8 * 9 + cell % 8;
                    x.edit(0, 1, edge + (cell == 0 ? 1 : 0), 1, 1, kind);
                    x.edit(0, 1, 54 + cell + (cell == 0 ? 8 : 0), 1, 1, kind);
                    x.merge(0);
                    Told.weather(x, 180);
                    x.flat(1, cell, 0);
                    x.people(0, 0, n);
                    x.rate(0, 500, 0);
                    Told.program(x, "b=0;l=0;v=0;");
                    x.run(1);
                    int heat = 18000 + 53 * n;
                    Check.due("8 and 45 for each of " + n, x.cell(1, cell, 0), heat);
                    x.people(0, 0, 0);
                    x.run(1);
                    int d = heat / 100 - 180;
                    int gone = d * 2 * WEIGHTS[kind] / 10 + 2 * (d / 10) + d * 2 / 10;
                    Check.due("kind " + kind + ", " + d + " warmer", x.cell(1, cell, 0), heat - gone);
                }
            }
        }
    }

    /** Warmer and colder rooms at once, minute by minute: all flows by the warmths as they were. */
    private static void allFlows() {
        KeptHouse x = house();
        Told.room(x, 2, 0);
        Told.room(x, 2, 47);
        Told.room(x, 3, 0);
        x.edit(0, 2, 1, 1, 1, 3);
        x.edit(0, 2, 54 + 47, 1, 1, 2);
        x.edit(0, 2, 0, 1, 1, 3);
        x.merge(0);
        Told.program(x, "b=0;v=0;");
        int n = x.spaces();
        int[] weathers = {-400, 500, -33, 181, 0};
        for (int i = 0; i < weathers.length; i++) {
            x.weather(0, weathers[i]);
            int k = i % 2 == 0 ? x.spaceAt(2, 0) : x.spaceAt(2, 47);
            int cell = i % 2 == 0 ? 0 : 47;
            long due = x.cell(2, cell, 0);
            long warmth = x.space(k, 6);
            for (int other = 0; other < n; other++) {
                int weight = x.between(k, other, 0);
                for (int kind = 1; kind < 4; kind++) {
                    weight += WEIGHTS[kind] * x.between(k, other, kind);
                }
                due -= (warmth - x.space(other, 6)) * weight / 10;
            }
            due -= (warmth - weathers[i]) * (x.space(k, 4) + 4 * x.space(k, 5)) / 10;
            x.run(1);
            Check.due("room of cell " + cell + " in the minute " + i, x.cell(2, cell, 0), due);
        }
    }

    private static void peopleAndLoads() {
        for (int n : new int[] {0, 1, 20}) {
            KeptHouse x = house();
            Told.weather(x, 180);
            x.flat(0, 0, 0);
            x.people(0, 0, n);
            Told.program(x, "b=0;");
            x.run(1);
            int load = n == 0 ? 0 : 15 * n + 288;
            Check.due(n + " people", Told.sum(x, 0, 0), 864000 + 8 * n + 3 * load);
        }
    }

    /** A heart gets of its circuit what that has: nothing when it is tripped. */
    private static void noLoadWhenTripped() {
        KeptHouse x = house();
        Told.weather(x, 180);
        x.flat(0, 0, 0);
        x.people(0, 0, 20);
        x.rate(0, 1, 0);
        Told.program(x, "b=0;l=0;");
        x.run(1);
        Check.due("tripped behind its load", Told.sum(x, 0, 0), 864000 + 160 + 900);
        x.run(1);
        Check.due("then people alone", Told.sum(x, 0, 0), 864000 + 160 + 900 + 160);
    }

    private static KeptHouse roomWithSet(int set) {
        KeptHouse x = house();
        Told.room(x, 0, 0);
        Told.weather(x, 180);
        x.flat(0, 0, 0);
        Told.program(x, "s0=" + set + ";");
        return x;
    }

    /** "Less its heat, 0 at least": a SET below, at and above the warmth. */
    private static void needAtLeastZero() {
        int[] sets = {50, 179, 180, 181};
        int[] due = {0, 0, 0, 60};
        for (int i = 0; i < sets.length; i++) {
            KeptHouse x = roomWithSet(sets[i]);
            x.run(1);
            Check.due("set " + sets[i], x.state(BOILER_GAVE), due[i]);
            Check.due("heat", x.cell(0, 0, 0), 18000 + due[i]);
            Check.due("wear", x.part(0, 1), due[i] > 0 ? 1 : 0);
        }
    }

    /** "60 times its cells at most": 59, 60 and 61 are lacking. */
    private static void needAtMostSixty() {
        for (int lack = 59; lack <= 61; lack++) {
            KeptHouse x = roomWithSet(181);
            x.price(0, 100 - lack);
            x.run(1);
            Check.due("so much is lacking", 18100 - x.cell(0, 0, 0), lack);
            x.price(0, 20000);
            x.run(1);
            Check.due("need of " + lack, x.state(BOILER_GAVE), Math.min(60, lack));
            x.run(1);
            Check.due("the rest", x.state(BOILER_GAVE), lack - Math.min(60, lack));
            x.run(1);
            Check.due("none then", x.state(BOILER_GAVE), 0);
        }
    }

    private static void needOfAStorey() {
        KeptHouse x = house();
        Told.weather(x, 180);
        x.flat(0, 0, 0);
        Told.program(x, "s0=181;");
        x.run(1);
        Check.due("60 times 48", x.state(BOILER_GAVE), 2880);
        x.run(1);
        Check.due("what is lacking", x.state(BOILER_GAVE), 1920);
        x.run(1);
        // It is 1 warmer than all round it: 4 go up by 48 pairs of cells, 2 out by 28 edges.
        Check.due("what went since", x.state(BOILER_GAVE), 6);
        Check.due("its meter", x.meter(0, 0), 4806);
        Check.due("not the house's", x.meter(10, 0), 0);
    }

    /** "150 without a flat": just that much is held, and for the house. */
    private static void unletToHundredFifty() {
        KeptHouse x = house();
        Told.weather(x, -400);
        Told.program(x, "b=0;");
        x.run(120);
        x.run(10);
        Check.due("colder than 150", x.space(0, 6) < 150, true);
        Told.weather(x, 150);
        x.price(0, 20000);
        Told.program(x, "");
        x.run(120);
        x.run(120);
        for (int storey = 0; storey < 5; storey++) {
            Check.due("heat of storey " + storey, Told.sum(x, storey, 0), 720000);
        }
        Check.due("no more is given", x.state(BOILER_GAVE), 0);
        Check.due("the house's meter", x.meter(10, 0) > 0, true);
        for (int flat = 0; flat < 10; flat++) {
            Check.due("meter of " + flat, x.meter(flat, 0), 0);
        }
    }

    /** "It GIVES the sum of all needs, its CAP at most": a need of 2880. */
    private static void capMet() {
        for (int cap = 2879; cap <= 2881; cap++) {
            KeptHouse x = house();
            Told.weather(x, 180);
            x.flat(0, 0, 0);
            x.price(0, cap);
            x.run(1);
            Check.due("cap " + cap, x.state(BOILER_GAVE), Math.min(2880, cap));
        }
        KeptHouse y = house();
        for (int storey = 0; storey < 5; storey++) {
            y.flat(storey, 0, storey);
        }
        y.run(1);
        Check.due("5000 at first", y.state(BOILER_GAVE), 5000);
        y.price(0, 20000);
        y.run(1);
        Check.due("five times 2880", y.state(BOILER_GAVE), 14400);
    }

    private static void capZero() {
        KeptHouse x = house();
        x.flat(0, 0, 0);
        x.price(0, 0);
        x.run(1);
        Check.due("nothing", x.state(BOILER_GAVE), 0);
        Check.due("no gas", x.money(2), 0);
        Check.due("no wear", x.part(0, 1), 0);
        Check.due("no meter", x.meter(0, 0), 0);
    }

    /** "If b is 1, the house's circuit is LIVE and the boiler has not FAILED." */
    private static void boilerSwitches() {
        KeptHouse x = house();
        x.flat(0, 0, 0);
        Told.program(x, "b=0;");
        x.run(1);
        Check.due("b is 0", x.state(BOILER_GAVE), 0);
        Told.program(x, "");
        x.life(0, 1);
        x.run(1);
        Check.due("it gives", x.state(BOILER_GAVE), 2880);
        Check.due("and fails", x.part(0, 3), 1);
        x.run(1);
        Check.due("failed", x.state(BOILER_GAVE), 0);
    }

    /** "GAS grows by 11 times that by 10, rounded up." */
    private static void gasRoundedUp() {
        int[] given = {0, 1, 9, 10, 11, 19, 20, 21, 100};
        int[] gas = {0, 2, 10, 11, 13, 21, 22, 24, 110};
        for (int i = 0; i < given.length; i++) {
            KeptHouse x = house();
            x.flat(0, 0, 0);
            x.price(0, given[i]);
            x.run(1);
            Check.due("gas for " + given[i], x.money(2), gas[i]);
        }
    }

    /** "To those with the greatest rests, of several to the first in the order." */
    private static void restsOfShares() {
        int[] caps = {0, 1, 2, 3, 4, 5, 6};
        for (int cap : caps) {
            KeptHouse x = house();
            Told.weather(x, 180);
            for (int storey = 0; storey < 3; storey++) {
                x.flat(storey, 0, 9 - storey);
            }
            x.price(0, cap);
            x.run(1);
            for (int storey = 0; storey < 3; storey++) {
                Check.due("cap " + cap + ", storey " + storey, x.meter(9 - storey, 0), cap / 3 + (storey < cap % 3 ? 1 : 0));
            }
        }
        // A room of 60 in storey 0 and a storey of 2880: of 49 the room has just one, of 25 the greater rest.
        int[][] due = {{24, 0, 24}, {25, 1, 24}, {48, 1, 47}, {49, 1, 48}, {50, 1, 49}};
        for (int[] row : due) {
            KeptHouse x = roomWithSet(200);
            x.flat(1, 0, 1);
            x.price(0, row[0]);
            x.run(1);
            Check.due("room of " + row[0], x.meter(0, 0), row[1]);
            Check.due("storey of " + row[0], x.meter(1, 0), row[2]);
        }
    }

    /** "That of the hot store, behind all spaces": the same need, and one to be given. */
    private static void hotStoreIsLast() {
        KeptHouse x = new KeptHouse(Told.seed(0, 20, true));
        Told.room(x, 0, 0);
        Told.weather(x, 180);
        x.flat(0, 0, 0);
        x.people(0, 0, 20);
        Told.program(x, "s0=50;l=0;");
        x.price(0, 100);
        x.run(1);
        Check.due("60 are lacking", x.state(5), 19940);
        x.people(0, 0, 0);
        x.price(0, 1);
        Told.program(x, "s0=300;");
        x.run(1);
        Check.due("the room's need is 60, too: it comes first", x.meter(0, 0), 1);
        Check.due("none to the store", x.state(5), 19940);
        x.price(0, 2);
        x.run(1);
        Check.due("one each", x.meter(0, 0), 2);
        Check.due("one to the store", x.state(5), 19941);
    }

    /** "Each gets it by how many they are, what is left over goes one by one to its least cells." */
    private static void leftOverOnCells() {
        for (int given : new int[] {0, 1, 2, 47, 48, 49}) {
            KeptHouse x = house();
            Told.weather(x, 180);
            x.flat(2, 0, 0);
            x.price(0, given);
            x.run(1);
            for (int cell = 0; cell < 48; cell++) {
                int due = 18000 + given / 48 + (cell < given % 48 ? 1 : 0);
                Check.due("cell " + cell + " with " + given, x.cell(2, cell, 0), due);
            }
        }
    }
}
