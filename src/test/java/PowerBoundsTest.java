/** Boundary cases of power: loads, charge, engine, shedding, heating (promises 26 to 31). */
public final class PowerBoundsTest {
    private static final int LOAD = 0;
    private static final int HEATING = 1;
    private static final int TRIPPED = 2;
    private static final int SHED = 3;
    private static final int CHARGE = 0;
    private static final int FUEL = 1;
    private static final int WITHOUT = 2;
    private static final int BOILER_GAVE = 7;
    private static final int ENGINE_GAVE = 9;

    public static void main(String[] args) {
        lampHours();
        lampsForSome();
        mostLoads();
        housesLoad();
        boilersLoad();
        chargeAtMost();
        chargeCutOff();
        engineWaits();
        withoutAnew();
        fuelAtMost();
        lastFuel();
        failedEngine();
        justCarried();
        oneTooMuch();
        justGiven();
        oneMoreThanGiven();
        ranksAndNumbers();
        allAreShed();
        atItsRating();
        howMuchMore();
        coolingDown();
        fortyNineAndFifty();
        trippedStays();
        liveAsItBegins();
        shedIsNotLive();
        beforeAnyMinute();
        powerMeters();
        Check.end();
    }

    private static KeptHouse house() {
        return new KeptHouse(0L);
    }

    /** "h is below 7 or 18 and more." */
    private static void lampHours() {
        KeptHouse x = house();
        x.flat(0, 0, 0);
        Told.people(x, 0, 1);
        x.rate(0, 500, 0);
        int[] hours = {0, 6, 7, 8, 16, 17, 18, 19, 23};
        for (int hour : hours) {
            Told.runTo(x, 10 * hour + 1);
            boolean dark = hour < 7 || hour >= 18;
            Check.due("in hour " + hour, x.circuit(0, LOAD), dark ? 15 + 288 : 15);
        }
        Told.runTo(x, 240 + 69);
        x.run(1);
        Check.due("the last minute of hour 6", x.circuit(0, LOAD), 303);
        x.run(1);
        Check.due("the first minute of hour 7", x.circuit(0, LOAD), 15);
        Told.runTo(x, 240 + 180);
        Check.due("the last minute of hour 17", x.circuit(0, LOAD), 15);
        x.run(1);
        Check.due("the first minute of hour 18", x.circuit(0, LOAD), 303);
    }

    /** "And, if there are some": lamps with one, none with nobody, none if l is 0. */
    private static void lampsForSome() {
        KeptHouse x = house();
        x.flat(0, 0, 0);
        x.run(1);
        Check.due("nobody", x.circuit(0, LOAD), 0);
        x.people(0, 0, 1);
        x.run(1);
        Check.due("one", x.circuit(0, LOAD), 15 + 288);
        Told.program(x, "l=0;");
        x.run(1);
        Check.due("no lamps", x.circuit(0, LOAD), 15);
    }

    /** Twenty people in a flat of all 240 cells; the last flat, too. */
    private static void mostLoads() {
        KeptHouse x = house();
        for (int storey = 0; storey < 5; storey++) {
            x.flat(storey, 0, 9);
        }
        x.people(9, 0, 20);
        x.run(1);
        Check.due("300 and 1440", x.circuit(9, LOAD), 1740);
        Check.due("flat 8", x.circuit(8, LOAD), 0);
    }

    /** "The house's: 20, 5 times v": v of 0 and of 9. */
    private static void housesLoad() {
        KeptHouse x = house();
        Told.program(x, "v=0;");
        x.run(1);
        Check.due("no vents", x.circuit(10, LOAD), 20);
        Told.program(x, "v=9;");
        x.run(1);
        Check.due("all vents", x.circuit(10, LOAD), 65);
    }

    /** "30 more if the boiler gave something in the latest minute": 0 and 1 of it. */
    private static void boilersLoad() {
        KeptHouse x = house();
        x.flat(0, 0, 0);
        x.price(0, 0);
        x.run(2);
        Check.due("it gave nothing", x.circuit(10, LOAD), 25);
        x.price(0, 1);
        x.run(1);
        Check.due("not in the latest minute yet", x.circuit(10, LOAD), 25);
        Check.due("one", x.state(BOILER_GAVE), 1);
        x.price(0, 0);
        x.run(1);
        Check.due("in the latest minute", x.circuit(10, LOAD), 55);
        x.run(1);
        Check.due("no more", x.circuit(10, LOAD), 25);
    }

    /** "CHARGE grows by 30, to 3000 at most (1500 at first)." */
    private static void chargeAtMost() {
        KeptHouse x = house();
        Check.due("at first", x.state(CHARGE), 1500);
        x.run(1);
        Check.due("a minute", x.state(CHARGE), 1530);
        x.run(48);
        Check.due("49 minutes", x.state(CHARGE), 2970);
        x.run(1);
        Check.due("50 minutes", x.state(CHARGE), 3000);
        x.run(1);
        Check.due("51 minutes", x.state(CHARGE), 3000);
    }

    /** From 1475 on 50 minutes come to 2975: then 25 are enough. */
    private static void chargeCutOff() {
        KeptHouse x = house();
        x.mains(false);
        x.run(1);
        Check.due("25 less", x.state(CHARGE), 1475);
        x.mains(true);
        x.run(50);
        Check.due("50 minutes", x.state(CHARGE), 2975);
        x.run(1);
        Check.due("at most", x.state(CHARGE), 3000);
    }

    /** "If the minutes without were 2 or more": the third minute is the engine's first. */
    private static void engineWaits() {
        KeptHouse x = house();
        x.mains(false);
        x.run(1);
        Check.due("none were", x.state(ENGINE_GAVE), 0);
        Check.due("now one", x.state(WITHOUT), 1);
        x.run(1);
        Check.due("one was", x.state(ENGINE_GAVE), 0);
        Check.due("now two", x.state(WITHOUT), 2);
        Check.due("fuel", x.state(FUEL), 100);
        Check.due("25 each", x.state(CHARGE), 1450);
        x.run(1);
        Check.due("two were", x.state(ENGINE_GAVE), 1);
        Check.due("fuel then", x.state(FUEL), 99);
        Check.due("charge stays: more is given than taken", x.state(CHARGE), 1450);
    }

    /** "With mains .. the minutes WITHOUT are 0": the engine waits anew. */
    private static void withoutAnew() {
        KeptHouse x = house();
        Check.due("they were there", x.mains(false), true);
        x.run(5);
        Check.due("five", x.state(WITHOUT), 5);
        Check.due("they were not", x.mains(true), false);
        Check.due("not before a minute", x.state(WITHOUT), 5);
        x.run(1);
        Check.due("none", x.state(WITHOUT), 0);
        Check.due("the engine rests", x.state(ENGINE_GAVE), 0);
        x.mains(false);
        x.run(2);
        Check.due("it waits", x.state(ENGINE_GAVE), 0);
        x.run(1);
        Check.due("it gives", x.state(ENGINE_GAVE), 1);
        Check.due("told twice", x.mains(false), false);
    }

    /** "FUEL grows by n, to 1000 at most." */
    private static void fuelAtMost() {
        KeptHouse x = house();
        Check.due("100 at first", x.fuel(0), 100);
        Check.due("999", x.fuel(899), 999);
        Check.due("1000", x.fuel(1), 1000);
        Check.due("no more", x.fuel(1), 1000);
        Check.due("nor by much", x.fuel(1000), 1000);
        x.reopen();
        Check.due("100 anew", x.fuel(0), 100);
        Check.due("all at once", x.fuel(1000), 1000);
    }

    /** "There is FUEL": the last of it is used, then the charge goes. */
    private static void lastFuel() {
        KeptHouse x = house();
        x.mains(false);
        x.run(101);
        Check.due("one is left", x.state(FUEL), 1);
        x.run(1);
        Check.due("the last one", x.state(ENGINE_GAVE), 1);
        Check.due("none is left", x.state(FUEL), 0);
        Check.due("charge", x.state(CHARGE), 1450);
        x.run(1);
        Check.due("no fuel", x.state(ENGINE_GAVE), 0);
        Check.due("none below 0", x.state(FUEL), 0);
        Check.due("charge goes", x.state(CHARGE), 1425);
        Check.due("one more", x.fuel(1), 1);
        x.run(1);
        Check.due("it gives again", x.state(ENGINE_GAVE), 1);
        Check.due("and none is left", x.state(FUEL), 0);
    }

    private static void failedEngine() {
        KeptHouse x = house();
        x.life(2, 1);
        x.mains(false);
        x.run(3);
        Check.due("it gave once", x.state(ENGINE_GAVE), 1);
        Check.due("and failed", x.part(2, 3), 1);
        x.run(1);
        Check.due("it gives no more", x.state(ENGINE_GAVE), 0);
        Check.due("fuel stays", x.state(FUEL), 99);
    }

    /** Rooms of one cell, a flat each, with so many people in hour 0. */
    private static KeptHouse rooms(int... people) {
        KeptHouse x = house();
        for (int flat = 0; flat < people.length; flat++) {
            int cell = flat < 5 ? 0 : 2;
            Told.room(x, flat % 5, cell);
            x.flat(flat % 5, cell, flat);
            x.people(flat, 0, people[flat]);
        }
        x.mains(false);
        return x;
    }

    /** "As long as the loads are together more than what is given and CHARGE": just 1500 on 1500. */
    private static KeptHouse emptied() {
        KeptHouse x = rooms(20, 20, 20, 18, 18);
        Told.program(x, "v=2;b=0;");
        x.run(1);
        return x;
    }

    private static void justCarried() {
        KeptHouse x = emptied();
        for (int c = 0; c < 11; c++) {
            Check.due("not shed " + c, x.circuit(c, SHED), 0);
        }
        Check.due("of 20 people", x.circuit(0, LOAD), 306);
        Check.due("the house's", x.circuit(10, LOAD), 30);
        Check.due("all of it goes", x.state(CHARGE), 0);
    }

    /** 1501 on 1500: the one with the greatest number of those with rank 0 goes, the house's 25. */
    private static void oneTooMuch() {
        KeptHouse x = rooms(16, 16, 16, 16, 16, 16);
        Told.program(x, "v=1;b=0;");
        x.run(1);
        Check.due("the house is shed", x.circuit(10, SHED), 1);
        Check.due("its load", x.circuit(10, LOAD), 0);
        for (int c = 0; c < 10; c++) {
            Check.due("not shed " + c, x.circuit(c, SHED), 0);
        }
        Check.due("1476 go", x.state(CHARGE), 24);
    }

    /** Just the 150 that the engine gives, with no charge left. */
    private static void justGiven() {
        KeptHouse x = emptied();
        for (int flat = 1; flat < 5; flat++) {
            x.people(flat, 0, 0);
        }
        x.people(0, 0, 8);
        Told.program(x, "v=2;b=0;l=0;");
        x.run(1);
        Check.due("nothing is given yet", x.circuit(0, SHED), 1);
        Check.due("nor to the house", x.circuit(10, SHED), 1);
        x.run(1);
        Check.due("given", x.state(ENGINE_GAVE), 1);
        Check.due("120", x.circuit(0, LOAD), 120);
        Check.due("30", x.circuit(10, LOAD), 30);
        Check.due("charge", x.state(CHARGE), 0);
    }

    /** 151 on 150: the house's 25 are shed; what is given and not taken charges nothing. */
    private static void oneMoreThanGiven() {
        KeptHouse x = emptied();
        for (int flat = 1; flat < 5; flat++) {
            x.people(flat, 0, 0);
        }
        x.people(0, 0, 8);
        Told.program(x, "v=1;b=0;");
        x.run(2);
        Check.due("given", x.state(ENGINE_GAVE), 1);
        Check.due("126", x.circuit(0, LOAD), 126);
        Check.due("the house is shed", x.circuit(10, SHED), 1);
        Check.due("charge stays 0", x.state(CHARGE), 0);
    }

    /** "Of those with a load the one with the greatest RANK (of several the greatest number)." */
    private static void ranksAndNumbers() {
        int[][] ranks = {{0, 0, 0, 0}, {9, 0, 0, 0}, {9, 9, 0, 0}, {8, 9, 0, 0}, {1, 1, 1, 0}, {0, 0, 0, 9}, {5, 5, 5, 5}};
        int[] due = {10, 0, 1, 1, 2, 10, 10};
        for (int i = 0; i < ranks.length; i++) {
            KeptHouse x = emptied();
            for (int flat = 0; flat < 5; flat++) {
                x.people(flat, 0, flat < 3 ? 4 : 0);
                if (flat < 3) {
                    x.rate(flat, 500, ranks[i][flat]);
                }
            }
            x.rate(10, 500, ranks[i][3]);
            // These have no load: their rank does not matter.
            x.rate(9, 500, 9);
            x.rate(4, 500, 9);
            Told.program(x, "v=0;b=0;l=0;");
            x.run(2);
            // 60 each and 20: of 200 one must go, at least, to come to 150.
            Check.due("the first to go, set " + i, x.circuit(due[i], SHED), 1);
            Check.due("not one without a load", x.circuit(9, SHED), 0);
            Check.due("nor the other", x.circuit(4, SHED), 0);
            int shed = 0;
            for (int c = 0; c < 11; c++) {
                shed += x.circuit(c, SHED);
            }
            Check.due("so many", shed, due[i] == 10 ? 2 : 1);
        }
    }

    /** With nothing left all that have a load are shed, and the charge does not fall below 0. */
    private static void allAreShed() {
        KeptHouse x = emptied();
        x.run(1);
        for (int c = 0; c < 11; c++) {
            Check.due("shed " + c, x.circuit(c, SHED), c < 5 || c == 10 ? 1 : 0);
            Check.due("load " + c, x.circuit(c, LOAD), 0);
        }
        Check.due("charge", x.state(CHARGE), 0);
        x.mains(true);
        x.run(1);
        for (int c = 0; c < 11; c++) {
            Check.due("with mains not shed " + c, x.circuit(c, SHED), 0);
        }
        Check.due("charge then", x.state(CHARGE), 30);
    }

    /** "If its load is above its RATING": 25 on 26, on 25, on 24. */
    private static void atItsRating() {
        int[] ratings = {26, 25, 24};
        int[] due = {0, 0, 1};
        for (int i = 0; i < ratings.length; i++) {
            KeptHouse x = house();
            x.rate(10, ratings[i], 0);
            x.run(1);
            Check.due("25 on " + ratings[i], x.circuit(10, HEATING), due[i]);
        }
    }

    /** "Grows by 1, and by ten times what is more divided by the RATING (rounded down)": 25 on each. */
    private static void howMuchMore() {
        int[] ratings = {23, 22, 20, 15, 13, 12, 6, 5, 1};
        for (int rating : ratings) {
            KeptHouse x = house();
            x.rate(10, rating, 0);
            x.run(1);
            int due = 1 + 10 * (25 - rating) / rating;
            Check.due("25 on " + rating, x.circuit(10, HEATING), due);
            Check.due("tripped on " + rating, x.circuit(10, TRIPPED), due >= 50 ? 1 : 0);
        }
        KeptHouse y = house();
        y.rate(10, 5, 0);
        y.run(1);
        Check.due("200 by 5, and 1", y.circuit(10, HEATING), 41);
        KeptHouse z = house();
        z.rate(10, 1, 0);
        z.run(1);
        Check.due("240 by 1, and 1", z.circuit(10, HEATING), 241);
    }

    /** "Else it becomes 2 less, 0 at least": from 3, 2, 1 and 0. */
    private static void coolingDown() {
        for (int heating = 0; heating < 5; heating++) {
            KeptHouse x = house();
            x.rate(10, 24, 0);
            for (int i = 0; i < heating; i++) {
                x.run(1);
            }
            Check.due("heated", x.circuit(10, HEATING), heating);
            x.rate(10, 25, 0);
            x.run(1);
            Check.due("less", x.circuit(10, HEATING), Math.max(0, heating - 2));
        }
    }

    /** "At 50 or more the circuit is TRIPPED." */
    private static void fortyNineAndFifty() {
        KeptHouse x = house();
        x.rate(10, 24, 0);
        x.run(49);
        Check.due("49", x.circuit(10, HEATING), 49);
        Check.due("not tripped", x.circuit(10, TRIPPED), 0);
        Check.due("not to be reset", x.reset(10), false);
        x.run(1);
        Check.due("50", x.circuit(10, HEATING), 50);
        Check.due("tripped", x.circuit(10, TRIPPED), 1);
        Check.due("in that minute it had its load", x.circuit(10, LOAD), 25);
        x.run(1);
        Check.due("then none", x.circuit(10, LOAD), 0);
        Check.due("48", x.circuit(10, HEATING), 48);
        Check.due("still tripped", x.circuit(10, TRIPPED), 1);
    }

    /** A TRIPPED circuit stays so, though it is cold, until it is reset: "its HEATING is 0". */
    private static void trippedStays() {
        KeptHouse x = house();
        x.rate(10, 1, 0);
        x.run(1);
        x.rate(10, 500, 0);
        x.run(120);
        Check.due("still some heat: 241 less 240", x.circuit(10, HEATING), 1);
        x.run(1);
        Check.due("cold", x.circuit(10, HEATING), 0);
        Check.due("tripped all the same", x.circuit(10, TRIPPED), 1);
        Check.due("no load", x.circuit(10, LOAD), 0);
        Check.due("reset", x.reset(10), true);
        Check.due("no more", x.circuit(10, TRIPPED), 0);
        Check.due("not again", x.reset(10), false);
        x.run(1);
        Check.due("its load", x.circuit(10, LOAD), 25);
        KeptHouse y = house();
        y.rate(10, 1, 0);
        y.run(1);
        y.reset(10);
        Check.due("its heating is 0", y.circuit(10, HEATING), 0);
    }

    /** "Neither TRIPPED (as it begins) nor SHED": in the minute in which it trips it is still LIVE. */
    private static void liveAsItBegins() {
        KeptHouse x = house();
        x.flat(0, 0, 0);
        x.rate(10, 1, 0);
        x.run(1);
        Check.due("tripped", x.circuit(10, TRIPPED), 1);
        Check.due("but the boiler gave", x.state(BOILER_GAVE) > 0, true);
        x.run(1);
        Check.due("now it does not", x.state(BOILER_GAVE), 0);
        x.rate(10, 500, 0);
        x.reset(10);
        x.run(1);
        Check.due("live again", x.state(BOILER_GAVE) > 0, true);
    }

    private static void shedIsNotLive() {
        KeptHouse x = emptied();
        Told.program(x, "");
        x.run(1);
        Check.due("the house is shed", x.circuit(10, SHED), 1);
        Check.due("no boiler", x.state(BOILER_GAVE), 0);
        x.mains(true);
        x.run(1);
        Check.due("live with mains", x.state(BOILER_GAVE) > 0, true);
    }

    /** "0 before any, and when it was SHED"; RATINGS 100 and RANKS 0 at first. */
    private static void beforeAnyMinute() {
        KeptHouse x = house();
        for (int c = 0; c < 11; c++) {
            for (int what = 0; what < 6; what++) {
                Check.due("circuit " + c + ", " + what, x.circuit(c, what), what == 4 ? 100 : 0);
            }
        }
        int[] first = {1500, 100, 0, 2000, 0, 20000, 0, 0, 0, 0, 0};
        for (int what = 0; what < 11; what++) {
            Check.due("state " + what, x.state(what), first[what]);
        }
    }

    /** Meters grow by the loads as they are after shedding. */
    private static void powerMeters() {
        KeptHouse x = emptied();
        Check.due("flat 0", x.meter(0, 1), 306);
        Check.due("the house", x.meter(10, 1), 30);
        x.run(1);
        Check.due("nothing more for flat 0", x.meter(0, 1), 306);
        Check.due("nor the house", x.meter(10, 1), 30);
        Check.due("flat 9 has none", x.meter(9, 1), 0);
    }
}
