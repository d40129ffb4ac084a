/** Promises 33 and 34 (ignite, detected), and step 7 of a minute. */
public final class FireTest {
    private static final int HEAT = 0;
    private static final int FLAME = 4;
    private static final int SMOKE = 5;

    public static void main(String[] args) {
        igniting();
        roomOnFire();
        drifting();
        spreading();
        vents();
        sprinklers();
        tankRunsOut();
        detection();
        wrongArguments();
        Check.end();
    }

    private static void igniting() {
        KeptHouse x = new KeptHouse(0L);
        Check.due("none before", x.ignite(4, 47), true);
        Check.due("one now", x.ignite(4, 47), false);
        Check.due("of 10", x.cell(4, 47, FLAME), 10);
        Check.due("others none", x.cell(4, 46, FLAME), 0);
        x.reopen();
        Check.due("not durable", x.cell(4, 47, FLAME), 0);
    }

    /** A room of one cell: no smoke drifts. */
    private static void roomOnFire() {
        KeptHouse x = new KeptHouse(0L);
        Told.room(x, 0, 9);
        Told.weather(x, 180);
        Told.program(x, "x=0;v=0;b=0;");
        x.ignite(0, 9);
        int flame = 10;
        int smoke = 0;
        for (int t = 0; t < 15; t++) {
            smoke += 2 * flame;
            flame = Math.min(100, flame + 10);
            x.run(1);
            Check.due("flame at " + t, x.cell(0, 9, FLAME), flame);
            Check.due("smoke at " + t, x.cell(0, 9, SMOKE), smoke);
        }
        Check.due("walls hold it", x.cell(0, 8, FLAME), 0);
        Check.due("and the smoke", x.cell(0, 8, SMOKE), 0);
        Check.due("it is warm", x.cell(0, 9, HEAT) > 50000, true);
    }

    private static void drifting() {
        KeptHouse x = new KeptHouse(0L);
        Told.program(x, "x=0;v=0;");
        x.ignite(0, 0);
        x.run(1);
        // 20, of which a quarter goes to each of two neighbours.
        Check.due("cell 0", x.cell(0, 0, SMOKE), 10);
        Check.due("cell 1", x.cell(0, 1, SMOKE), 5);
        Check.due("cell 8", x.cell(0, 8, SMOKE), 5);
        Check.due("cell 9", x.cell(0, 9, SMOKE), 0);
        x.run(1);
        // 50 and 5 and 5: all edges go by what was there: 11 to each, and 1 on from each twice.
        Check.due("cell 0 then", x.cell(0, 0, SMOKE), 28);
        Check.due("cell 1 then", x.cell(0, 1, SMOKE), 14);
        Check.due("cell 8 then", x.cell(0, 8, SMOKE), 14);
        Check.due("cell 9 then", x.cell(0, 9, SMOKE), 2);
        Check.due("cell 2 then", x.cell(0, 2, SMOKE), 1);
        Check.due("cell 16 then", x.cell(0, 16, SMOKE), 1);
        Check.due("the storey above", x.cell(1, 0, SMOKE), 0);
    }

    private static void spreading() {
        KeptHouse x = new KeptHouse(0L);
        x.edit(0, 0, 1, 1, 1, 3);
        x.merge(0);
        Told.program(x, "x=0;");
        x.ignite(0, 0);
        x.run(9);
        Check.due("100 now", x.cell(0, 0, FLAME), 100);
        Check.due("not yet", x.cell(0, 8, FLAME), 0);
        x.run(1);
        Check.due("100 when the step began", x.cell(0, 8, FLAME), 10);
        Check.due("not through a wall", x.cell(0, 1, FLAME), 0);
        x.run(1);
        Check.due("it grows", x.cell(0, 8, FLAME), 20);
        x.run(9);
        Check.due("and lights others", x.cell(0, 9, FLAME), 10);
        Check.due("and others still", x.cell(0, 16, FLAME), 10);
    }

    private static void vents() {
        KeptHouse x = new KeptHouse(0L);
        Told.room(x, 0, 9);
        Told.program(x, "x=0;v=7;b=0;");
        x.ignite(0, 9);
        x.run(1);
        Check.due("20 less 2", x.cell(0, 9, SMOKE), 18);
        x.run(1);
        // 58 * 7 by 50 = 8.
        Check.due("58 less 8", x.cell(0, 9, SMOKE), 50);
        x.rate(10, 1, 0);
        x.run(1);
        Check.due("it trips in this minute: 110 less 15", x.cell(0, 9, SMOKE), 95);
        x.run(1);
        Check.due("no vents: 80 more", x.cell(0, 9, SMOKE), 175);
    }

    private static void sprinklers() {
        KeptHouse x = new KeptHouse(0L);
        Told.room(x, 0, 9);
        Told.program(x, "v=0;");
        x.ignite(0, 9);
        x.run(1);
        Check.due("20 is not detected", x.detected(1), false);
        Check.due("so it grows", x.cell(0, 9, FLAME), 20);
        Check.due("no water", x.state(3), 2000);
        x.run(1);
        Check.due("60 is detected", x.detected(1), true);
        Check.due("20 and 10, less 30", x.cell(0, 9, FLAME), 0);
        Check.due("10 of the tank", x.state(3), 1990);
        x.run(1);
        Check.due("no flame, no water", x.state(3), 1990);
        Check.due("smoke stays", x.cell(0, 9, SMOKE), 60);
        Check.due("still detected", x.detected(1), true);
        Check.due("it can burn again", x.ignite(0, 9), true);
        x.run(1);
        Check.due("0 at least", x.cell(0, 9, FLAME), 0);
        Check.due("again 10", x.state(3), 1980);
    }

    /** Cell by cell, as far as there are 10 in the tank. */
    private static void tankRunsOut() {
        KeptHouse x = new KeptHouse(0L);
        Told.program(x, "v=0;p=0;b=0;");
        int left = 2000;
        for (int round = 0; round < 6 && left >= 10; round++) {
            for (int cell = 0; cell < 48; cell++) {
                x.ignite(0, cell);
            }
            x.run(1);
            if (round == 0) {
                Check.due("20 each is not detected", x.state(3), 2000);
                continue;
            }
            left = Math.max(0, left - 480);
            Check.due("tank in round " + round, x.state(3), left);
        }
        Check.due("none is left", x.state(3), 0);
        // In the last round 80 were there: eight cells.
        Check.due("eighth cell", x.cell(0, 7, FLAME), 0);
        Check.due("ninth cell", x.cell(0, 8, FLAME), 20);
    }

    /** More than 20 times the cells. */
    private static void detection() {
        KeptHouse x = new KeptHouse(0L);
        Told.program(x, "v=0;x=0;");
        for (int cell = 0; cell < 48; cell++) {
            x.ignite(3, cell);
        }
        x.run(1);
        Check.due("960 of 960", x.detected(3), false);
        Check.due("others", x.detected(2), false);
        x.run(1);
        Check.due("2880", x.detected(3), true);
        Check.due("others still", x.detected(4), false);
        x.reopen();
        Check.due("not anew", x.detected(3), false);
    }

    private static void wrongArguments() {
        KeptHouse x = new KeptHouse(0L);
        Check.illegalArgument("ignite storey", () -> x.ignite(5, 0));
        Check.illegalArgument("ignite storey -1", () -> x.ignite(-1, 0));
        Check.illegalArgument("ignite cell", () -> x.ignite(0, 48));
        Check.illegalArgument("ignite cell -1", () -> x.ignite(0, -1));
        Check.illegalArgument("detected -1", () -> x.detected(-1));
        Check.illegalArgument("detected 5", () -> x.detected(5));
    }
}
