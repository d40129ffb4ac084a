/** Boundary cases of fire, smoke, detection and sprinklers (step 7 of a minute; promises 33 and 34). */
public final class FireBoundsTest {
    private static final int HEAT = 0;
    private static final int FLAME = 4;
    private static final int SMOKE = 5;
    private static final int TANK = 3;

    public static void main(String[] args) {
        flameToAHundred();
        lightsAtAHundred();
        noNeighbourBeyondALine();
        openEdgesAlone();
        neighbourThatBurns();
        quartersRoundedToZero();
        driftOfAStorey();
        fiftieths();
        ventsNeedTheHouse();
        moreThanTwenty();
        detectedNow();
        thirtyLess();
        sprinklersNeedX();
        sprinklersNeedTen();
        spaceBySpace();
        wantedInTheNextMinute();
        anew();
        Check.end();
    }

    /** A room of one cell in storey 2 that burns; nothing drifts out of it. */
    private static KeptHouse burning(String program) {
        KeptHouse x = new KeptHouse(0L);
        Told.room(x, 2, 9);
        Told.weather(x, 180);
        Told.program(x, program);
        x.ignite(2, 9);
        return x;
    }

    /** "Twice that of SMOKE, and 50 times that of HEAT; then its flame grows by 10, to 100 at most." */
    private static void flameToAHundred() {
        KeptHouse x = burning("b=0;x=0;v=0;");
        Check.due("10 at first", x.cell(2, 9, FLAME), 10);
        int smoke = 0;
        int flame = 10;
        for (int i = 0; i < 12; i++) {
            smoke += 2 * flame;
            flame = Math.min(100, flame + 10);
            x.run(1);
            Check.due("flame in the minute " + i, x.cell(2, 9, FLAME), flame);
            Check.due("smoke in the minute " + i, x.cell(2, 9, SMOKE), smoke);
        }
        Check.due("it came to 100", flame, 100);
        KeptHouse y = burning("b=0;x=0;v=0;");
        y.run(1);
        Check.due("500 of heat", y.cell(2, 9, HEAT), 18500);
    }

    /** "Each cell whose flame was 100 when this step began lights its neighbours": not when it comes to 100. */
    private static void lightsAtAHundred() {
        KeptHouse x = new KeptHouse(0L);
        Told.program(x, "b=0;x=0;v=0;");
        x.ignite(2, 9);
        x.run(9);
        Check.due("it comes to 100", x.cell(2, 9, FLAME), 100);
        for (int cell : new int[] {1, 8, 10, 17}) {
            Check.due("not lit yet " + cell, x.cell(2, cell, FLAME), 0);
        }
        x.run(1);
        for (int cell : new int[] {1, 8, 10, 17}) {
            Check.due("lit " + cell, x.cell(2, cell, FLAME), 10);
        }
        for (int cell : new int[] {0, 2, 16, 18, 11, 25}) {
            Check.due("no neighbour " + cell, x.cell(2, cell, FLAME), 0);
        }
        Check.due("not above", x.cell(3, 9, FLAME), 0);
        Check.due("not below", x.cell(1, 9, FLAME), 0);
        x.run(1);
        Check.due("they grow", x.cell(2, 8, FLAME), 20);
        Check.due("but light none", x.cell(2, 0, FLAME), 0);
    }

    /** Cells at the ends of lines: the next number is no neighbour. */
    private static void noNeighbourBeyondALine() {
        int[][] cells = {{0, 1, 8}, {7, 6, 15}, {8, 0, 9, 16}, {15, 7, 14, 23}, {40, 32, 41}, {47, 39, 46}};
        for (int[] row : cells) {
            KeptHouse x = new KeptHouse(0L);
            Told.program(x, "b=0;x=0;v=0;");
            x.ignite(0, row[0]);
            x.run(10);
            int lit = 0;
            for (int cell = 0; cell < 48; cell++) {
                lit += x.cell(0, cell, FLAME) > 0 ? 1 : 0;
            }
            Check.due("so many burn", lit, row.length);
            for (int i = 1; i < row.length; i++) {
                Check.due("beside " + row[0], x.cell(0, row[i], FLAME), 10);
            }
            for (int cell = 0; cell < 48; cell++) {
                Check.due("no storey above " + cell, x.cell(1, cell, FLAME), 0);
            }
        }
    }

    /** "Its neighbours by OPEN edges": no other kind lets it through. */
    private static void openEdgesAlone() {
        for (int kind = 0; kind < 4; kind++) {
            KeptHouse x = new KeptHouse(0L);
            x.edit(0, 0, 1, 1, 1, kind);
            x.merge(0);
            Told.program(x, "b=0;x=0;v=0;");
            x.ignite(0, 0);
            x.run(10);
            Check.due("kind " + kind, x.cell(0, 1, FLAME), kind == 0 ? 10 : 0);
            Check.due("the other way", x.cell(0, 8, FLAME), 10);
        }
    }

    /** "Neighbours that have none": one that burns is not set back to 10. */
    private static void neighbourThatBurns() {
        KeptHouse x = new KeptHouse(0L);
        Told.program(x, "b=0;x=0;v=0;");
        x.ignite(0, 0);
        x.run(5);
        x.ignite(0, 1);
        x.run(5);
        Check.due("it grew as it would", x.cell(0, 1, FLAME), 60);
        Check.due("the other was lit", x.cell(0, 8, FLAME), 10);
    }

    /** "A quarter of the difference, rounded to 0": a passage of two cells, each difference from 20 down. */
    private static void quartersRoundedToZero() {
        KeptHouse x = new KeptHouse(0L);
        x.edit(0, 0, 2, 1, 1, 1);
        x.edit(0, 0, 54 + 8, 2, 1, 1);
        x.merge(0);
        // The sprinklers put the flame out at once, when the smoke of both is more than 40.
        Told.program(x, "b=0;v=0;");
        x.ignite(0, 1);
        x.run(2);
        Check.due("out", x.cell(0, 1, FLAME), 0);
        // 20: 15 and 5. Then 40 more: 55 and 5 become 43 and 17.
        long far = x.cell(0, 0, SMOKE);
        long near = x.cell(0, 1, SMOKE);
        Check.due("far", far, 17);
        Check.due("near", near, 43);
        for (int i = 0; i < 8; i++) {
            long moved = (near - far) / 4;
            near -= moved;
            far += moved;
            x.run(1);
            Check.due("near after " + i, x.cell(0, 1, SMOKE), near);
            Check.due("far after " + i, x.cell(0, 0, SMOKE), far);
        }
        Check.due("a difference below 4 stays", near - far > 0 && near - far < 4, true);
    }

    /** Smoke of a whole storey, by what was there before any of it drifted. */
    private static void driftOfAStorey() {
        KeptHouse x = new KeptHouse(0L);
        x.edit(0, 0, 1, 1, 1, 1);
        x.edit(0, 0, 70, 3, 1, 2);
        x.merge(0);
        Told.program(x, "b=0;x=0;v=0;");
        x.ignite(0, 0);
        x.ignite(0, 20);
        long[] smoke = new long[48];
        long[] flame = new long[48];
        flame[0] = 10;
        flame[20] = 10;
        for (int t = 0; t < 8; t++) {
            for (int cell = 0; cell < 48; cell++) {
                smoke[cell] += 2 * flame[cell];
                flame[cell] = flame[cell] > 0 ? Math.min(100, flame[cell] + 10) : 0;
            }
            long[] now = smoke.clone();
            for (int cell = 0; cell < 48; cell++) {
                boolean wallRight = cell == 0;
                boolean wallAbove = cell >= 8 && cell <= 10;
                if (cell % 8 < 7 && !wallRight) {
                    long moved = (now[cell] - now[cell + 1]) / 4;
                    smoke[cell] -= moved;
                    smoke[cell + 1] += moved;
                }
                if (cell < 40 && !wallAbove) {
                    long moved = (now[cell] - now[cell + 8]) / 4;
                    smoke[cell] -= moved;
                    smoke[cell + 8] += moved;
                }
            }
            x.run(1);
            for (int cell = 0; cell < 48; cell++) {
                Check.due("smoke of " + cell + " in the minute " + t, x.cell(0, cell, SMOKE), smoke[cell]);
            }
        }
    }

    /** "Each cell loses its SMOKE times v by 50": 20, 20 times v is below 50, 60, .. 180. */
    private static void fiftieths() {
        int[] due = {20, 20, 20, 19, 19, 18, 18, 18, 17, 17};
        for (int v = 0; v < 10; v++) {
            KeptHouse x = burning("b=0;x=0;v=" + v + ";");
            x.run(1);
            Check.due("v of " + v, x.cell(2, 9, SMOKE), due[v]);
        }
    }

    private static void ventsNeedTheHouse() {
        KeptHouse x = burning("b=0;x=0;v=9;");
        x.rate(10, 1, 0);
        x.run(1);
        Check.due("it trips, but is live", x.cell(2, 9, SMOKE), 17);
        x.run(1);
        Check.due("not live: 40 more", x.cell(2, 9, SMOKE), 57);
    }

    /** "DETECTED when the SMOKE of its cells together is more than 20 times how many they are": 20, 21, 20. */
    private static void moreThanTwenty() {
        KeptHouse x = burning("b=0;v=0;");
        int k = x.spaceAt(2, 9);
        Check.due("none at first", x.detected(k), false);
        x.run(1);
        Check.due("just 20", x.cell(2, 9, SMOKE), 20);
        Check.due("not detected", x.detected(k), false);
        Check.due("so no sprinkler", x.cell(2, 9, FLAME), 20);
        x.run(1);
        Check.due("60", x.detected(k), true);
        Check.due("the sprinkler took 30", x.cell(2, 9, FLAME), 0);
        Told.program(x, "b=0;v=9;");
        for (int due : new int[] {50, 41, 34, 28, 23}) {
            x.run(1);
            Check.due("the smoke goes", x.cell(2, 9, SMOKE), due);
        }
        Told.program(x, "b=0;v=5;");
        x.run(1);
        Check.due("just 21", x.cell(2, 9, SMOKE), 21);
        Check.due("detected", x.detected(k), true);
        Told.program(x, "b=0;v=3;");
        x.run(1);
        Check.due("20 again", x.cell(2, 9, SMOKE), 20);
        Check.due("not detected now", x.detected(k), false);
        Check.due("other spaces never were", x.detected(0), false);
        KeptHouse y = new KeptHouse(0L);
        y.edit(0, 0, 3, 1, 1, 1);
        y.edit(0, 0, 62, 3, 1, 1);
        y.merge(0);
        Told.program(y, "b=0;x=0;v=0;");
        y.ignite(0, 1);
        y.run(2);
        Check.due("60 in three cells", y.detected(0), false);
        y.run(1);
        Check.due("120 in three cells", y.detected(0), true);
    }

    /** "Whether a space is DETECTED now": spaces that are merged have their smoke together at once. */
    private static void detectedNow() {
        KeptHouse x = burning("b=0;x=0;v=0;");
        x.run(2);
        Check.due("the room", x.detected(x.spaceAt(2, 9)), true);
        x.take(0);
        x.edit(0, 2, 10, 1, 1, 0);
        x.merge(0);
        Check.due("a storey of 48 cells", x.space(2, 2), 48);
        Check.due("60 are too few for it", x.detected(2), false);
        Told.room(x, 2, 9);
        Check.due("the room again", x.detected(x.spaceAt(2, 9)), true);
        x.reopen();
        Check.due("no smoke anew", x.detected(x.spaceAt(2, 9)), false);
    }

    /** "The flame becomes 30 less, 0 at least": 20, 30 and 40. */
    private static void thirtyLess() {
        KeptHouse x = burning("b=0;v=0;x=0;");
        x.run(2);
        Check.due("30", x.cell(2, 9, FLAME), 30);
        Told.program(x, "b=0;v=0;");
        x.run(1);
        Check.due("40 less 30", x.cell(2, 9, FLAME), 10);
        Check.due("ten of water", x.state(TANK), 1990);
        x.run(1);
        Check.due("20 less 30", x.cell(2, 9, FLAME), 0);
        Check.due("ten more", x.state(TANK), 1980);
        x.run(1);
        Check.due("out: no water", x.state(TANK), 1980);
        Check.due("it can be lit again", x.ignite(2, 9), true);
        KeptHouse y = burning("b=0;v=0;");
        y.run(2);
        Check.due("30 less 30", y.cell(2, 9, FLAME), 0);
        KeptHouse z = burning("b=0;v=0;x=0;");
        z.run(20);
        Told.program(z, "b=0;v=0;");
        z.run(1);
        Check.due("100 less 30", z.cell(2, 9, FLAME), 70);
    }

    private static void sprinklersNeedX() {
        KeptHouse x = burning("b=0;v=0;x=0;");
        x.run(5);
        Check.due("x is 0", x.cell(2, 9, FLAME), 60);
        Check.due("no water", x.state(TANK), 2000);
        Told.program(x, "b=0;v=0;x=1;");
        x.rate(10, 1, 0);
        x.run(2);
        Check.due("they need no power: 40, then 20", x.cell(2, 9, FLAME), 20);
    }

    /** "If the TANK has 10 it loses these": 48 flames take 1920 in four minutes, 80 are left for eight of them. */
    private static void sprinklersNeedTen() {
        KeptHouse x = new KeptHouse(0L);
        Told.program(x, "b=0;v=0;x=0;p=0;");
        for (int cell = 0; cell < 48; cell++) {
            x.ignite(1, cell);
        }
        x.run(9);
        Told.program(x, "b=0;v=0;p=0;");
        int[] flames = {70, 50, 30, 10};
        for (int i = 0; i < 4; i++) {
            x.run(1);
            Check.due("flames", x.cell(1, 47, FLAME), flames[i]);
            Check.due("the tank", x.state(TANK), 2000 - 480 * (i + 1));
        }
        x.run(1);
        Check.due("empty", x.state(TANK), 0);
        for (int cell = 0; cell < 48; cell++) {
            Check.due("cell " + cell, x.cell(1, cell, FLAME), cell < 8 ? 0 : 20);
        }
        x.run(1);
        Check.due("no water, no help", x.cell(1, 8, FLAME), 30);
    }

    /** "Space by space, cell by cell": a room of the last cell comes behind the rest, a lower storey before. */
    private static void spaceBySpace() {
        KeptHouse x = new KeptHouse(0L);
        Told.room(x, 1, 3);
        Told.program(x, "b=0;v=0;x=0;p=0;");
        for (int cell = 0; cell < 48; cell++) {
            x.ignite(1, cell);
        }
        x.run(9);
        Told.program(x, "b=0;v=0;p=0;");
        x.run(5);
        // The rest is space 1, with cells 0, 1, 2, 4, 5, 6, 7, 8 as its first eight; cell 3 is space 2.
        for (int cell = 0; cell < 48; cell++) {
            boolean first = cell < 9 && cell != 3;
            Check.due("cell " + cell, x.cell(1, cell, FLAME), first ? 0 : 20);
        }
    }

    /** The pump is WANTED by what the TANK has in step 4 alone: not when sprinklers empty it. */
    private static void wantedInTheNextMinute() {
        KeptHouse x = new KeptHouse(0L);
        Told.program(x, "b=0;v=0;x=0;");
        for (int cell = 0; cell < 48; cell++) {
            x.ignite(1, cell);
        }
        x.run(9);
        Told.program(x, "b=0;v=0;");
        x.run(4);
        Check.due("80 are left, 560 were there before the fire", x.state(TANK), 80);
        Check.due("not wanted", x.state(4), 0);
        Check.due("it did not run", x.state(8), 0);
        x.run(1);
        Check.due("wanted in the next minute", x.state(4), 1);
        Check.due("it ran", x.state(8), 1);
        // 80 and 60 of the pump are enough for fourteen cells.
        Check.due("out", x.cell(1, 13, FLAME), 0);
        Check.due("not out", x.cell(1, 14, FLAME), 20);
    }

    /** Flames and smoke are as at first when the house begins anew. */
    private static void anew() {
        KeptHouse x = burning("b=0;v=0;x=0;");
        x.run(3);
        Check.due("smoke", x.cell(2, 9, SMOKE), 120);
        x.reopen();
        Check.due("no smoke", x.cell(2, 9, SMOKE), 0);
        Check.due("no flame", x.cell(2, 9, FLAME), 0);
        Check.due("not detected", x.detected(x.spaceAt(2, 9)), false);
        x.ignite(2, 9);
        x.run(1);
        Check.due("smoke of one minute alone", x.cell(2, 9, SMOKE), 20);
    }
}
