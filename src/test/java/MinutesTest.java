/** Promises 26 to 32 (run, mains, fuel, reset, circuit, state, cell), and steps 3 to 6 of a minute. */
public final class MinutesTest {
    private static final int LOAD = 0;
    private static final int HEATING = 1;
    private static final int TRIPPED = 2;
    private static final int SHED = 3;
    private static final int CHARGE = 0;
    private static final int FUEL = 1;
    private static final int WITHOUT = 2;
    private static final int TANK = 3;
    private static final int WANTED = 4;
    private static final int STORED = 5;
    private static final int COOL = 6;
    private static final int BOILER_GAVE = 7;
    private static final int PUMP_RAN = 8;
    private static final int ENGINE_GAVE = 9;

    public static void main(String[] args) {
        running();
        firstStates();
        loads();
        tripping();
        housesCircuit();
        engine();
        engineFails();
        shedding();
        water();
        dryTank();
        coldFlow();
        innerWalls();
        sunAndPeople();
        boiler();
        boilerShares();
        hotStore();
        staleAir();
        moistAir();
        glassAir();
        mould();
        wrongArguments();
        Check.end();
    }

    private static void running() {
        KeptHouse x = new KeptHouse(0L);
        Check.due("one", x.run(1), 1);
        Check.due("most", x.run(120), 121);
        Check.due("time", x.state(10), 121);
        Check.illegalArgument("none", () -> x.run(0));
        Check.illegalArgument("too many", () -> x.run(121));
        Check.illegalArgument("below 0", () -> x.run(-1));
        Check.due("no rows in a day", x.rows(2), 1);
        Check.due("end of a day", x.run(119), 240);
        Check.due("a group of 15", x.rows(2), 16);
        for (int row = 1; row < 16; row++) {
            int kind = row < 11 ? 8 : row == 11 ? 9 : row == 12 ? 10 : 11;
            int index = row < 11 ? row - 1 : row < 13 ? 0 : row - 13;
            Check.due("kind in row " + row, x.disk(0, row, 0), kind);
            Check.due("index in row " + row, x.disk(0, row, 1), index);
            Check.due("last in row " + row, x.disk(0, row, 2), row == 15 ? 1 : 0);
        }
        Check.due("time kept", x.disk(0, 11, 12), 240);
        x.run(100);
        x.reopen();
        Check.due("time of the last day", x.state(10), 240);
        x.run(100);
        x.crash(3);
        x.run(120);
        Check.due("cut at the end of the day", x.run(120), KeptHouse.CUT);
        Check.due("down", x.isDown(), true);
        x.reopen();
        Check.due("time as it was written", x.state(10), 240);
    }

    private static void firstStates() {
        KeptHouse x = new KeptHouse(0L);
        long[] want = {1500, 100, 0, 2000, 0, 20000, 0, 0, 0, 0, 0};
        for (int what = 0; what < 11; what++) {
            Check.due("state " + what, x.state(what), want[what]);
        }
        long[] circuit = {0, 0, 0, 0, 100, 0};
        for (int what = 0; what < 6; what++) {
            Check.due("circuit " + what, x.circuit(10, what), circuit[what]);
        }
        long[] cell = {18000, 0, 0, 0, 0, 0};
        for (int what = 0; what < 6; what++) {
            Check.due("cell " + what, x.cell(4, 47, what), cell[what]);
        }
    }

    /** 15 each, and 6 for each cell in the hours 0 .. 6 and 18 .. 23. */
    private static void loads() {
        KeptHouse x = new KeptHouse(0L);
        x.flat(0, 0, 3);
        x.rate(3, 500, 0);
        Told.people(x, 3, 2);
        Told.people(x, 4, 2);
        x.run(1);
        Check.due("lamps at night", x.circuit(3, LOAD), 30 + 6 * 48);
        Check.due("no heart, no load", x.circuit(4, LOAD), 0);
        Check.due("meter", x.meter(3, 1), 318);
        Check.due("the house's", x.circuit(10, LOAD), 25);
        Check.due("the house's meter", x.meter(10, 1), 25);
        x.run(69);
        Check.due("hour 6", x.circuit(3, LOAD), 318);
        x.run(1);
        Check.due("hour 7", x.circuit(3, LOAD), 30);
        x.run(109);
        Check.due("hour 17", x.circuit(3, LOAD), 30);
        x.run(1);
        Check.due("hour 18", x.circuit(3, LOAD), 318);
        x.people(3, 18, 0);
        x.run(1);
        Check.due("no people, no lamps", x.circuit(3, LOAD), 0);
        x.people(3, 18, 1);
        Told.program(x, "l=0;v=9;");
        x.run(1);
        Check.due("lamps are off", x.circuit(3, LOAD), 15);
        Check.due("vents", x.circuit(10, LOAD), 20 + 45 + (x.state(BOILER_GAVE) > 0 ? 30 : 0));
    }

    /** 318 on a rating of 100: 1 and 2180 by 100, so 22 a minute. */
    private static void tripping() {
        KeptHouse x = new KeptHouse(0L);
        x.flat(0, 0, 0);
        Told.people(x, 0, 2);
        x.run(2);
        Check.due("heating", x.circuit(0, HEATING), 44);
        Check.due("not yet", x.circuit(0, TRIPPED), 0);
        Check.due("nothing to reset", x.reset(0), false);
        Check.due("heating stays", x.circuit(0, HEATING), 44);
        x.run(1);
        Check.due("66", x.circuit(0, HEATING), 66);
        Check.due("tripped", x.circuit(0, TRIPPED), 1);
        Check.due("its load in that minute", x.circuit(0, LOAD), 318);
        x.run(1);
        Check.due("no load", x.circuit(0, LOAD), 0);
        Check.due("2 less", x.circuit(0, HEATING), 64);
        x.run(40);
        Check.due("0 at least", x.circuit(0, HEATING), 0);
        Check.due("still tripped", x.circuit(0, TRIPPED), 1);
        Check.due("reset", x.reset(0), true);
        Check.due("no more", x.circuit(0, TRIPPED), 0);
        x.run(1);
        Check.due("again", x.circuit(0, HEATING), 22);
        x.rate(0, 318, 0);
        x.run(1);
        Check.due("as much as its rating", x.circuit(0, HEATING), 20);
        x.rate(0, 317, 0);
        x.run(1);
        Check.due("one above", x.circuit(0, HEATING), 21);
        x.rate(0, 1, 0);
        x.run(1);
        Check.due("far above", x.circuit(0, HEATING), 21 + 1 + 3170);
        x.reset(0);
        Check.due("heating is 0", x.circuit(0, HEATING), 0);
    }

    /** A house's circuit that trips is live still in that minute, and not in the next. */
    private static void housesCircuit() {
        KeptHouse x = new KeptHouse(0L);
        x.flat(0, 0, 0);
        x.rate(10, 1, 0);
        x.run(1);
        Check.due("tripped", x.circuit(10, TRIPPED), 1);
        Check.due("the boiler gave", x.state(BOILER_GAVE), 2880);
        x.run(1);
        Check.due("no boiler", x.state(BOILER_GAVE), 0);
        Check.due("no load", x.circuit(10, LOAD), 0);
        x.reset(10);
        x.rate(10, 100, 0);
        x.run(1);
        Check.due("boiler again", x.state(BOILER_GAVE) > 0, true);
        x.run(1);
        Check.due("boiler's load", x.circuit(10, LOAD), 55);
    }

    private static void engine() {
        KeptHouse x = new KeptHouse(0L);
        Check.due("they were", x.mains(false), true);
        Check.due("they were not", x.mains(false), false);
        x.run(2);
        Check.due("charge", x.state(CHARGE), 1450);
        Check.due("without", x.state(WITHOUT), 2);
        Check.due("no engine", x.state(ENGINE_GAVE), 0);
        x.run(1);
        Check.due("engine", x.state(ENGINE_GAVE), 1);
        Check.due("fuel", x.state(FUEL), 99);
        Check.due("charge stays", x.state(CHARGE), 1450);
        Check.due("wear", x.part(2, 1), 1);
        x.run(99);
        Check.due("the last fuel", x.state(FUEL), 0);
        Check.due("still gave", x.state(ENGINE_GAVE), 1);
        x.run(1);
        Check.due("gave no more", x.state(ENGINE_GAVE), 0);
        Check.due("charge goes", x.state(CHARGE), 1425);
        Check.due("fuel comes", x.fuel(5), 5);
        Check.due("at most", x.fuel(1000), 1000);
        Check.due("none", x.fuel(0), 1000);
        x.mains(true);
        x.run(1);
        Check.due("without none", x.state(WITHOUT), 0);
        Check.due("charge grows", x.state(CHARGE), 1455);
        Check.due("engine rests", x.state(ENGINE_GAVE), 0);
        x.run(60);
        Check.due("to its most", x.state(CHARGE), 3000);
        x.mains(false);
        x.run(1);
        x.reopen();
        Check.due("mains anew", x.mains(true), true);
        Check.due("fuel anew", x.state(FUEL), 100);
        Check.due("charge anew", x.state(CHARGE), 1500);
    }

    private static void engineFails() {
        KeptHouse x = new KeptHouse(0L);
        x.life(2, 2);
        x.mains(false);
        x.run(4);
        Check.due("failed", x.part(2, 3), 1);
        Check.due("gave", x.state(ENGINE_GAVE), 1);
        x.run(1);
        Check.due("gives no more", x.state(ENGINE_GAVE), 0);
        Check.due("fuel stays", x.state(FUEL), 98);
    }

    /** Five flats of 318 and the house's 25: 1615 on a charge of 1500. */
    private static void shedding() {
        KeptHouse x = new KeptHouse(0L);
        for (int flat = 0; flat < 5; flat++) {
            x.flat(flat, 0, flat);
            x.people(flat, 0, 2);
            x.rate(flat, 500, flat == 1 || flat == 3 ? 3 : 0);
        }
        Told.program(x, "b=0;");
        x.mains(false);
        x.run(1);
        Check.due("the greatest number of the greatest rank", x.circuit(3, SHED), 1);
        Check.due("its load", x.circuit(3, LOAD), 0);
        Check.due("not the other", x.circuit(1, SHED), 0);
        Check.due("charge", x.state(CHARGE), 1500 - 1297);
        Check.due("its meter", x.meter(3, 1), 0);
        x.run(1);
        for (int c = 0; c < 11; c++) {
            Check.due("shed " + c, x.circuit(c, SHED), c < 5 || c == 10 ? 1 : 0);
        }
        Check.due("charge stays", x.state(CHARGE), 203);
        x.run(1);
        // The engine gives 150: of 353 in all 318 and 25 can be carried.
        Check.due("3 is shed", x.circuit(3, SHED), 1);
        Check.due("1 is shed", x.circuit(1, SHED), 1);
        Check.due("the house is shed", x.circuit(10, SHED), 1);
        Check.due("flat 0 is not", x.circuit(0, LOAD), 318);
        Check.due("charge", x.state(CHARGE), 203 - 168);
        x.mains(true);
        x.run(1);
        Check.due("none is shed", x.circuit(3, SHED), 0);
    }

    /** Five flats of twenty: the tank, the hot store and the meters, minute by minute. */
    private static void water() {
        long seed = 987654321987654321L;
        KeptHouse x = new KeptHouse(seed);
        for (int flat = 0; flat < 5; flat++) {
            x.flat(flat, 5, flat + 2);
            x.flat(flat, 0, flat + 2);
            for (int hour = 0; hour < 5; hour++) {
                x.people(flat + 2, hour, 20);
            }
            x.rate(flat + 2, 500, 0);
        }
        Told.program(x, "b=0;l=0;");
        int tank = 2000;
        int stored = 20000;
        int cool = 0;
        boolean wanted = false;
        int[] meter = new int[10];
        for (int t = 0; t < 50; t++) {
            for (int flat = 2; flat < 7; flat++) {
                if (Told.draw(seed, t, flat) < 80) {
                    tank -= 10;
                    meter[flat] += 10;
                    stored = Math.max(0, stored - 160);
                }
            }
            wanted = wanted || tank < 500;
            boolean runs = wanted;
            if (runs) {
                tank = Math.min(2000, tank + 60);
                wanted = tank < 2000;
            }
            cool = stored < 5000 ? cool + 1 : 0;
            x.run(1);
            Check.due("tank at " + t, x.state(TANK), tank);
            Check.due("wanted at " + t, x.state(WANTED), wanted ? 1 : 0);
            Check.due("pump at " + t, x.state(PUMP_RAN), runs ? 1 : 0);
            Check.due("stored at " + t, x.state(STORED), stored);
            Check.due("cool at " + t, x.state(COOL), cool);
        }
        for (int flat = 0; flat < 10; flat++) {
            Check.due("water of " + flat, x.meter(flat, 2), meter[flat]);
        }
        Check.due("the pump had to run", x.part(1, 1) > 0, true);
        Check.due("the house has no water meter", x.meter(10, 2), 0);
    }

    /** Without a pump the tank is empty some day: 6 cold come before 4 hot. */
    private static void dryTank() {
        long seed = 5;
        KeptHouse x = new KeptHouse(seed);
        for (int flat = 0; flat < 5; flat++) {
            x.flat(flat, 0, flat);
            for (int hour = 0; hour < 6; hour++) {
                x.people(flat, hour, 20);
            }
        }
        Told.program(x, "b=0;p=0;");
        int tank = 2000;
        for (int t = 0; t < 60; t++) {
            boolean dry = false;
            for (int flat = 0; flat < 5; flat++) {
                if (Told.draw(seed, t, flat) < 80) {
                    dry = dry || tank < 10;
                    tank = Math.max(0, tank - 10);
                }
            }
            int before = x.alarms();
            x.run(1);
            Check.due("tank at " + t, x.state(TANK), tank);
            Check.due("wanted at " + t, x.state(WANTED), tank < 500 ? 1 : 0);
            boolean noted = false;
            int behind = x.alarms();
            for (int k = 0; k < behind - before; k++) {
                noted = noted || x.alarm(k, 0) == 10;
            }
            if (!dry) {
                Check.due("not dry at " + t, noted, false);
            }
        }
        Check.due("empty", tank, 0);
        boolean ever = false;
        for (int k = 0; k < x.alarms(); k++) {
            ever = ever || x.alarm(k, 0) == 10;
        }
        Check.due("dry", ever, true);
    }

    /** 180 warm, 28 HEAVY edges a storey; 504 of 864000 go out, and 1368 of the uppermost. */
    private static void coldFlow() {
        KeptHouse x = new KeptHouse(0L);
        x.run(1);
        Check.due("first cells", x.cell(0, 0, 0), 17990);
        Check.due("24th", x.cell(0, 23, 0), 17990);
        Check.due("25th", x.cell(0, 24, 0), 17989);
        Check.due("under the roof", x.cell(4, 23, 0), 17972);
        Check.due("under the roof, 25th", x.cell(4, 24, 0), 17971);
        Check.due("warmth", x.space(0, 6), 179);
        KeptHouse y = new KeptHouse(0L);
        y.weather(0, -7);
        y.run(1);
        // 187 times 28 by 10 is 523.6: 523 go out, 863477 stay: 17989 each, and 5 are left over.
        Check.due("rounded to 0", y.cell(0, 4, 0), 17990);
        Check.due("rounded to 0, the rest", y.cell(0, 5, 0), 17989);
        KeptHouse z = new KeptHouse(0L);
        z.weather(0, 281);
        z.run(1);
        // (180 - 281) times 28 by 10 is -282.8: 282 come in.
        Check.due("from outside", z.cell(0, 41, 0), 18006);
        Check.due("from outside, rest", z.cell(0, 42, 0), 18005);
    }

    /** A room of one cell, warmed by a flame, gives to its storey and to those above and below. */
    private static void innerWalls() {
        KeptHouse x = new KeptHouse(0L);
        Told.room(x, 2, 9);
        Told.weather(x, 180);
        Told.program(x, "b=0;x=0;v=0;");
        x.ignite(2, 9);
        x.run(1);
        Check.due("50 times its flame", x.cell(2, 9, 0), 18500);
        x.run(1);
        // 185 and 180: 5 times (4 * 3) by 10 = 6 to its storey, 5 times 1 by 10 = 0 up and down.
        Check.due("6 less, 1000 more", x.cell(2, 9, 0), 18500 - 6 + 1000);
        Check.due("they are in its storey", x.cell(2, 0, 0), 18001);
        Check.due("the sixth", x.cell(2, 5, 0), 18001);
        Check.due("no seventh", x.cell(2, 6, 0), 18000);
        Check.due("none above", x.cell(3, 0, 0), 18000);
        x.run(1);
        // 194 and 180: 14 * 12 by 10 = 16, and 14 by 10 = 1 up and 1 down.
        Check.due("18 less, 1500 more", x.cell(2, 9, 0), 19494 - 18 + 1500);
        Check.due("one above", x.cell(3, 0, 0), 18001);
        Check.due("one below", x.cell(1, 0, 0), 18001);
    }

    private static void sunAndPeople() {
        KeptHouse x = new KeptHouse(Told.seed(0, 3, false));
        x.edit(0, 0, 0, 2, 9, 3);
        x.edit(0, 0, 102, 1, 1, 3);
        x.merge(0);
        x.sun(0, 0, 59);
        x.sun(3, 0, 200);
        x.sun(1, 0, 200);
        x.flat(0, 0, 0);
        x.people(0, 0, 3);
        Told.program(x, "b=0;");
        x.run(1);
        // Out: 180 * (25 + 3 * 4) by 10 = 666. Sun: 5 and 5 and 20. People: 24, and 3 * (45 + 288).
        long sum = 0;
        for (int cell = 0; cell < 48; cell++) {
            sum += x.cell(0, cell, 0);
        }
        Check.due("heat of the space", sum, 864000 - 666 + 30 + 24 + 999);
    }

    private static void boiler() {
        KeptHouse x = new KeptHouse(0L);
        x.flat(1, 0, 7);
        x.run(1);
        Check.due("60 for each cell", x.state(BOILER_GAVE), 2880);
        Check.due("its meter", x.meter(7, 0), 2880);
        Check.due("the house's", x.meter(10, 0), 0);
        Check.due("gas", x.money(2), 3168);
        Check.due("heat", x.cell(1, 0, 0), 17989 + 60 + 1);
        Check.due("wear", x.part(0, 1), 1);
        x.price(0, 101);
        x.run(1);
        Check.due("its cap", x.state(BOILER_GAVE), 101);
        Check.due("gas, rounded up", x.money(2), 3168 + 112);
        x.price(0, 0);
        x.run(1);
        Check.due("gave nothing", x.state(BOILER_GAVE), 0);
        Check.due("no wear", x.part(0, 1), 2);
        x.run(1);
        Check.due("no load of the boiler", x.circuit(10, LOAD), 25);
        x.price(0, 20000);
        Told.program(x, "b=0;");
        x.run(1);
        Check.due("is not wished", x.state(BOILER_GAVE), 0);
        Told.program(x, "s7=180;");
        x.run(1);
        // The need: what is lacking to 100 * 48 * 180, when that is less than 2880.
        long sum = 0;
        for (int cell = 0; cell < 48; cell++) {
            sum += x.cell(1, cell, 0);
        }
        Check.due("no more than its set", sum, 864000);
    }

    /** Seven in three equal needs: 3, 2, 2. */
    private static void boilerShares() {
        KeptHouse x = new KeptHouse(0L);
        for (int flat = 0; flat < 3; flat++) {
            x.flat(flat, 0, flat);
        }
        x.price(0, 7);
        x.run(1);
        Check.due("first", x.meter(0, 0), 3);
        Check.due("second", x.meter(1, 0), 2);
        Check.due("third", x.meter(2, 0), 2);
        Check.due("gas", x.money(2), 8);
        KeptHouse y = new KeptHouse(0L);
        Told.room(y, 1, 0);
        y.flat(0, 0, 0);
        y.flat(1, 0, 1);
        y.price(0, 50);
        y.run(1);
        // Needs 2880 and 60 of 2940: 48 rest 2880, 1 rest 60; the one left goes to the first.
        Check.due("greatest rest", y.meter(0, 0), 49);
        Check.due("the other", y.meter(1, 0), 1);
    }

    private static void hotStore() {
        KeptHouse x = new KeptHouse(Told.seed(0, 20, true));
        x.flat(0, 0, 0);
        x.people(0, 0, 20);
        x.weather(0, 180);
        Told.program(x, "s0=50;");
        x.run(1);
        Check.due("4 hot took 160, the boiler gave them", x.state(STORED), 20000);
        Check.due("gave", x.state(BOILER_GAVE), 160);
        Check.due("the house's meter", x.meter(10, 0), 160);
        Check.due("gas", x.money(2), 176);
    }

    /** 400 of 20 people, of which 10 thousandths go by the vents: 396 on 48 cells. */
    private static void staleAir() {
        KeptHouse x = new KeptHouse(0L);
        x.flat(0, 0, 0);
        x.people(0, 0, 20);
        x.run(1);
        Check.due("first", x.cell(0, 0, 1), 9);
        Check.due("12th", x.cell(0, 11, 1), 9);
        Check.due("13th", x.cell(0, 12, 1), 8);
        x.run(1);
        // 396 + 400 less 7.
        Check.due("789 on 48", x.cell(0, 20, 1), 17);
        Check.due("the rest", x.cell(0, 21, 1), 16);
        Told.program(x, "v=9;");
        x.people(0, 0, 0);
        x.run(1);
        // 789 * 90 by 1000 = 71 less: 718.
        Check.due("718 on 48", x.cell(0, 45, 1), 15);
        Check.due("46th", x.cell(0, 46, 1), 14);
        x.rate(10, 1, 0);
        x.run(2);
        long sum = sum(x, 1);
        x.run(1);
        Check.due("no vents without the house's circuit", sum(x, 1), sum);
    }

    private static long sum(KeptHouse x, int what) {
        long sum = 0;
        for (int cell = 0; cell < 48; cell++) {
            sum += x.cell(0, cell, what);
        }
        return sum;
    }

    private static void moistAir() {
        KeptHouse x = new KeptHouse(Told.seed(0, 20, true));
        x.flat(0, 0, 0);
        x.people(0, 0, 20);
        x.run(1);
        Check.due("100 and 8 of 4 hot, less 1", sum(x, 2), 107);
        Check.due("spread", x.cell(0, 10, 2), 3);
        Check.due("spread on", x.cell(0, 11, 2), 2);
        KeptHouse y = new KeptHouse(Told.seed(0, 20, false));
        y.flat(0, 0, 0);
        y.people(0, 0, 20);
        y.run(1);
        Check.due("100 less 1", sum(y, 2), 99);
    }

    private static void glassAir() {
        KeptHouse x = new KeptHouse(Told.seed(0, 20, false));
        x.edit(0, 0, 54, 8, 1, 3);
        x.edit(0, 0, 102, 8, 1, 3);
        x.merge(0);
        x.flat(0, 0, 0);
        x.people(0, 0, 20);
        Told.program(x, "v=2;");
        x.run(1);
        // 2 * 16 and 20 thousandths of 400: 20.8.
        Check.due("stale", sum(x, 1), 380);
        Check.due("moist", sum(x, 2), 95);
    }

    /** A cell with a HEAVY edge at the border moulds while its space is cold and it is moist. */
    private static void mould() {
        KeptHouse x = new KeptHouse(1L);
        Told.room(x, 4, 7);
        x.flat(4, 7, 0);
        x.people(0, 0, 20);
        Told.weather(x, -400);
        Told.program(x, "v=0;b=0;l=0;");
        int space = x.spaceAt(4, 7);
        int mould = 0;
        boolean grew = false;
        for (int t = 0; t < 80; t++) {
            x.run(1);
            boolean grows = x.space(space, 6) < 130 && x.cell(4, 7, 2) > 300;
            mould = grows ? mould + 1 : Math.max(0, mould - 1);
            grew = grew || grows;
            Check.due("mould at " + t, x.cell(4, 7, 3), mould);
        }
        Check.due("none where it is dry", x.cell(4, 0, 3), 0);
        Check.due("it grew", grew, true);
        x.weather(8, 500);
        x.weather(9, 500);
        x.weather(10, 500);
        Told.program(x, "v=9;b=0;");
        long before = x.cell(4, 7, 3);
        x.run(30);
        Check.due("moist air goes", x.cell(4, 7, 2) < 300, true);
        Check.due("mould goes", x.cell(4, 7, 3) < before, true);
    }

    private static void wrongArguments() {
        KeptHouse x = new KeptHouse(0L);
        Check.illegalArgument("fuel -1", () -> x.fuel(-1));
        Check.illegalArgument("fuel 1001", () -> x.fuel(1001));
        Check.illegalArgument("reset -1", () -> x.reset(-1));
        Check.illegalArgument("reset 11", () -> x.reset(11));
        Check.illegalArgument("circuit -1", () -> x.circuit(-1, 0));
        Check.illegalArgument("circuit 11", () -> x.circuit(11, 0));
        Check.illegalArgument("circuit what -1", () -> x.circuit(0, -1));
        Check.illegalArgument("circuit what 6", () -> x.circuit(0, 6));
        Check.illegalArgument("state -1", () -> x.state(-1));
        Check.illegalArgument("state 11", () -> x.state(11));
        Check.illegalArgument("cell storey", () -> x.cell(5, 0, 0));
        Check.illegalArgument("cell -1", () -> x.cell(0, -1, 0));
        Check.illegalArgument("cell 48", () -> x.cell(0, 48, 0));
        Check.illegalArgument("cell what -1", () -> x.cell(0, 0, -1));
        Check.illegalArgument("cell what 6", () -> x.cell(0, 0, 6));
    }
}
