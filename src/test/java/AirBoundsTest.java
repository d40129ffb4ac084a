/** Boundary cases of air and mould (step 6 of a minute; promise 32). */
public final class AirBoundsTest {
    private static final int STALE = 1;
    private static final int MOIST = 2;
    private static final int MOULD = 3;

    public static void main(String[] args) {
        thousandths();
        glassEdges();
        mostThousandths();
        notWithoutTheHouse();
        hotWaterIsMoist();
        leftOverOnCells();
        moistAboveThreeHundred();
        ownMoist();
        warmthBelowHundredThirty();
        mouldAtMost();
        mouldAtLeast();
        othersKeepTheirs();
        minuteByMinute();
        anew();
        Check.end();
    }

    /** A corner room of storey 0, a flat of its own, with so many people in hour 0 who draw no water at first. */
    private static KeptHouse room(int people, int vents) {
        KeptHouse x = new KeptHouse(Told.seed(0, 20, false));
        Told.room(x, 0, 0);
        x.flat(0, 0, 0);
        x.people(0, 0, people);
        Told.program(x, "b=0;v=" + vents + ";");
        return x;
    }

    /** "So many thousandths of what it has, rounded down: .. 10 times v." */
    private static void thousandths() {
        int[][] due = {{4, 1, 80}, {5, 1, 99}, {9, 1, 179}, {10, 1, 198}, {20, 0, 400}, {20, 9, 364}, {0, 9, 0}, {1, 4, 20}, {1, 5, 19}};
        for (int[] row : due) {
            KeptHouse x = room(row[0], row[1]);
            x.run(1);
            Check.due(row[0] + " people, v of " + row[1], x.cell(0, 0, STALE), row[2]);
        }
        int[][] moist = {{19, 1, 95}, {20, 1, 99}, {20, 9, 91}, {2, 9, 10}, {3, 9, 14}};
        for (int[] row : moist) {
            KeptHouse x = room(row[0], row[1]);
            x.run(1);
            Check.due("moist of " + row[0] + " people, v of " + row[1], x.cell(0, 0, MOIST), row[2]);
        }
    }

    /** "2 for each GLASS edge at its border, and 10 times v, together." */
    private static void glassEdges() {
        int[][] due = {{0, 400}, {1, 400}, {2, 399}};
        for (int[] row : due) {
            KeptHouse x = room(20, 0);
            x.take(0);
            x.edit(0, 0, 0, Math.max(1, row[0]), 54, row[0] == 0 ? 2 : 3);
            x.merge(0);
            Check.due("glass", x.space(0, 5), row[0]);
            x.run(1);
            Check.due(row[0] + " edges of glass", x.cell(0, 0, STALE), row[1]);
        }
        // 4 and 10 thousandths of 400 are 5.6 together; by themselves they would be 1 and 4.
        KeptHouse y = room(20, 1);
        y.take(0);
        y.edit(0, 0, 0, 2, 54, 3);
        y.merge(0);
        y.run(1);
        Check.due("together", y.cell(0, 0, STALE), 395);
        y.people(0, 0, 14);
        y.run(1);
        Check.due("675 less 9", y.cell(0, 0, STALE), 666);
    }

    /** All 28 edges of glass and all vents: 146 thousandths. */
    private static void mostThousandths() {
        KeptHouse x = new KeptHouse(Told.seed(0, 20, false));
        x.edit(0, 0, 0, 6, 9, 3);
        x.edit(0, 0, 8, 6, 9, 3);
        x.edit(0, 0, 54, 8, 1, 3);
        x.edit(0, 0, 102, 8, 1, 3);
        x.merge(0);
        Check.due("glass", x.space(0, 5), 28);
        x.flat(0, 0, 0);
        x.people(0, 0, 20);
        Told.program(x, "v=9;");
        x.run(1);
        Check.due("400 less 58", Told.sum(x, 0, STALE), 342);
        Check.due("100 less 14", Told.sum(x, 0, MOIST), 86);
    }

    /** "If the house's circuit is LIVE, 10 times v": glass works without it. */
    private static void notWithoutTheHouse() {
        KeptHouse x = room(20, 9);
        x.take(0);
        x.edit(0, 0, 0, 2, 54, 3);
        x.merge(0);
        x.rate(10, 1, 0);
        x.run(1);
        Check.due("it trips, but is live: 94 thousandths of 400", x.cell(0, 0, STALE), 363);
        x.people(0, 0, 0);
        x.run(1);
        Check.due("4 thousandths of 363", x.cell(0, 0, STALE), 362);
    }

    /** "2 MOIST for each hot unit that its flat took in this minute." */
    private static void hotWaterIsMoist() {
        for (boolean draws : new boolean[] {true, false}) {
            KeptHouse x = new KeptHouse(Told.seed(0, 20, draws));
            Told.room(x, 0, 0);
            x.flat(0, 0, 0);
            x.people(0, 0, 20);
            Told.program(x, "b=0;v=0;");
            x.run(1);
            Check.due("moist", x.cell(0, 0, MOIST), draws ? 108 : 100);
            x.people(0, 0, 0);
            x.run(1);
            Check.due("not in the next minute", x.cell(0, 0, MOIST), draws ? 108 : 100);
        }
    }

    private static void leftOverOnCells() {
        KeptHouse x = new KeptHouse(Told.seed(0, 20, false));
        x.flat(0, 0, 0);
        x.people(0, 0, 5);
        Told.program(x, "v=0;b=0;");
        x.run(1);
        for (int cell = 0; cell < 48; cell++) {
            Check.due("100 on cell " + cell, x.cell(0, cell, STALE), cell < 4 ? 3 : 2);
            Check.due("25 on cell " + cell, x.cell(0, cell, MOIST), cell < 25 ? 1 : 0);
        }
    }

    /** A seed with which flat 0 draws, or does not, in the first minutes; people are told for each of them. */
    private static long seedOf(int[] people, boolean[] draws) {
        for (long seed = 0; seed < 10000000; seed++) {
            boolean fits = true;
            for (int t = 0; t < people.length && fits; t++) {
                fits = Told.draw(seed, t, 0) < 4 * people[t] == draws[t];
            }
            if (fits) {
                return seed;
            }
        }
        throw new IllegalStateException("no such seed");
    }

    /** Lets people come minute by minute, then nobody; the moist air stays. */
    private static KeptHouse damp(int[] people, boolean[] draws, int cells) {
        KeptHouse x = new KeptHouse(seedOf(people, draws));
        x.edit(0, 4, cells, 1, 1, 1);
        x.edit(0, 4, 54 + 8, cells, 1, 1);
        x.merge(0);
        x.flat(4, 0, 0);
        Told.program(x, "v=0;b=0;l=0;");
        for (int n : people) {
            x.people(0, 0, n);
            x.run(1);
        }
        x.people(0, 0, 0);
        Told.weather(x, -400);
        return x;
    }

    /** "Its MOIST above 300": 300 and 301 in a room that is cold. */
    private static void moistAboveThreeHundred() {
        KeptHouse x = damp(new int[] {20, 20, 20}, new boolean[] {false, false, false}, 1);
        Check.due("just 300", x.cell(4, 0, MOIST), 300);
        x.run(120);
        Check.due("cold", x.space(x.spaceAt(4, 0), 6) < 130, true);
        Check.due("no mould", x.cell(4, 0, MOULD), 0);
        KeptHouse y = damp(new int[] {20, 20, 17}, new boolean[] {true, true, false}, 1);
        Check.due("just 301", y.cell(4, 0, MOIST), 301);
        y.run(120);
        Check.due("cold, too", y.space(y.spaceAt(4, 0), 6) < 130, true);
        Check.due("mould", y.cell(4, 0, MOULD) > 0, true);
    }

    /** "The cell's own MOIST": of 601 one cell has 301, the other 300. */
    private static void ownMoist() {
        int[] people = {20, 20, 20, 20, 20, 17};
        KeptHouse x = damp(people, new boolean[] {true, true, false, false, false, false}, 2);
        Check.due("the first", x.cell(4, 0, MOIST), 301);
        Check.due("the second", x.cell(4, 1, MOIST), 300);
        x.run(120);
        Check.due("the first moulds", x.cell(4, 0, MOULD) > 0, true);
        Check.due("the second does not", x.cell(4, 1, MOULD), 0);
    }

    /** "If its space's WARMTH is below 130": 131, 130, 129, 128 minute by minute. */
    private static void warmthBelowHundredThirty() {
        KeptHouse x = damp(new int[] {20, 20, 20, 20}, new boolean[] {true, true, true, true}, 1);
        int k = x.spaceAt(4, 0);
        for (int i = 0; i < 100 && x.space(k, 6) > 133; i++) {
            x.run(1);
        }
        Told.weather(x, 0);
        boolean[] seen = new boolean[3];
        long mould = 0;
        for (int i = 0; i < 60 && x.space(k, 6) > 127; i++) {
            x.run(1);
            int warmth = x.space(k, 6);
            mould = warmth < 130 ? mould + 1 : 0;
            Check.due("mould at a warmth of " + warmth, x.cell(4, 0, MOULD), mould);
            if (warmth >= 129 && warmth <= 131) {
                seen[warmth - 129] = true;
            }
        }
        Check.due("129 was seen", seen[0], true);
        Check.due("130 was seen", seen[1], true);
        Check.due("131 was seen", seen[2], true);
    }

    /** "It grows by 1, to 1000 at most." */
    private static void mouldAtMost() {
        KeptHouse x = damp(new int[] {20, 20, 20, 20}, new boolean[] {true, true, true, true}, 1);
        for (int i = 0; i < 100 && x.cell(4, 0, MOULD) == 0; i++) {
            x.run(1);
        }
        Check.due("the first", x.cell(4, 0, MOULD), 1);
        for (int i = 0; i < 8; i++) {
            x.run(120);
        }
        x.run(38);
        Check.due("999", x.cell(4, 0, MOULD), 999);
        x.run(1);
        Check.due("1000", x.cell(4, 0, MOULD), 1000);
        x.run(1);
        Check.due("no more", x.cell(4, 0, MOULD), 1000);
        Told.program(x, "v=9;b=0;");
        for (int i = 0; i < 60 && x.cell(4, 0, MOIST) > 300; i++) {
            Check.due("as long as it is moist", x.cell(4, 0, MOULD), 1000);
            x.run(1);
        }
        Check.due("1 less at once", x.cell(4, 0, MOULD), 999);
    }

    /** "Else it becomes 1 less, 0 at least": from 2 on. */
    private static void mouldAtLeast() {
        KeptHouse x = damp(new int[] {20, 20, 17}, new boolean[] {true, true, false}, 1);
        for (int i = 0; i < 100 && x.cell(4, 0, MOULD) < 2; i++) {
            x.run(1);
        }
        Check.due("two", x.cell(4, 0, MOULD), 2);
        Told.program(x, "v=9;b=0;");
        for (int due : new int[] {1, 0, 0, 0}) {
            x.run(1);
            Check.due("less", x.cell(4, 0, MOULD), due);
        }
    }

    /** "Each cell with a HEAVY edge at the border has a MOULD (others keep theirs)." */
    private static void othersKeepTheirs() {
        KeptHouse x = damp(new int[] {20, 20, 20, 20}, new boolean[] {true, true, true, true}, 1);
        for (int i = 0; i < 100 && x.cell(4, 0, MOULD) < 3; i++) {
            x.run(1);
        }
        x.take(0);
        x.edit(0, 4, 0, 1, 1, 3);
        x.merge(0);
        x.run(1);
        Check.due("one HEAVY edge is enough", x.cell(4, 0, MOULD), 4);
        x.edit(0, 4, 54, 1, 1, 3);
        x.merge(0);
        x.run(10);
        Check.due("with none it is kept", x.cell(4, 0, MOULD), 4);
        Told.program(x, "v=9;b=0;");
        x.run(60);
        Check.due("moist no more", x.cell(4, 0, MOIST) < 300, true);
        Check.due("kept all the same", x.cell(4, 0, MOULD), 4);
        x.edit(0, 4, 0, 1, 1, 2);
        x.merge(0);
        x.run(1);
        Check.due("HEAVY again, and dry", x.cell(4, 0, MOULD), 3);
        Check.due("a cell within never has any", x.cell(4, 9, MOULD), 0);
    }

    /** STALE of a room with two edges of glass, minute by minute, with people and vents that change. */
    private static void minuteByMinute() {
        KeptHouse x = room(0, 0);
        x.take(0);
        x.edit(0, 0, 0, 2, 54, 3);
        x.merge(0);
        x.rate(0, 500, 0);
        long stale = 0;
        for (int t = 0; t < 60; t++) {
            int people = 7 * t % 21;
            if (t % 10 == 0) {
                Told.program(x, "b=0;l=0;v=" + t / 10 + ";");
            }
            x.people(0, t / 10, people);
            stale += 20 * people;
            stale -= stale * (4 + 10 * (t / 10)) / 1000;
            x.run(1);
            Check.due("stale at " + t, x.cell(0, 0, STALE), stale);
        }
    }

    /** "All that is not durable is as at first": STALE, MOIST and MOULD are 0. */
    private static void anew() {
        KeptHouse x = damp(new int[] {20, 20, 20, 20}, new boolean[] {true, true, true, true}, 1);
        for (int i = 0; i < 100 && x.cell(4, 0, MOULD) < 3; i++) {
            x.run(1);
        }
        Check.due("stale", x.cell(4, 0, STALE) > 0, true);
        Check.due("moist", x.cell(4, 0, MOIST) > 300, true);
        x.reopen();
        Check.due("heat anew", x.cell(4, 0, 0), 18000);
        Check.due("stale anew", x.cell(4, 0, STALE), 0);
        Check.due("moist anew", x.cell(4, 0, MOIST), 0);
        Check.due("mould anew", x.cell(4, 0, MOULD), 0);
    }
}
