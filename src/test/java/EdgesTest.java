/** The least and the greatest number that each call takes, and some that are just beyond. */
public final class EdgesTest {
    public static void main(String[] args) {
        plan();
        oneConflict();
        crookedSpaces();
        told();
        minutes();
        access();
        tapes();
        Check.end();
    }

    private static void plan() {
        KeptHouse x = new KeptHouse(0L);
        Check.due("take 0", x.take(0), 0);
        Check.due("take 2", x.take(2), 0);
        Check.due("conflict of desk 2", x.conflict(2, 0), KeptHouse.NONE);
        Check.due("settle of desk 0", x.settle(0, 0, true), KeptHouse.NONE);
        Check.due("settle of desk 2", x.settle(2, 0, true), KeptHouse.NONE);
        Check.illegalArgument("settle of desk -1", () -> x.settle(-1, 0, true));
        Check.due("edit the first edge", x.edit(0, 0, 0, 1, 1, 3), 1);
        Check.due("edge 0", x.edge(0, 0), 2);
        Check.due("edge 109", x.edge(4, 109), 2);
        Check.illegalArgument("edge of storey -1", () -> x.edge(-1, 0));
        Check.due("draft 0", x.draft(0, 0, 0), 3);
        Check.due("draft 109", x.draft(2, 4, 109), 2);
        Check.illegalArgument("draft of storey 5", () -> x.draft(0, 5, 0));
        Check.illegalArgument("draft of storey 6", () -> x.draft(0, 6, 0));
        Check.illegalArgument("draft of desk -1", () -> x.draft(-1, 0, 0));
        Check.illegalArgument("draft of edge -1", () -> x.draft(0, 0, -1));
        Check.due("space of the first cell", x.spaceAt(0, 0), 0);
        Check.due("space of the last cell", x.spaceAt(4, 47), 4);
        Check.illegalArgument("storey -1", () -> x.spaceAt(-1, 0));
        Check.illegalArgument("cell -1", () -> x.spaceAt(0, -1));
        Check.due("the last two spaces", x.between(4, 3, 0), 48);
        Check.due("the last two spaces, turned", x.between(3, 4, 0), 48);
        Check.illegalArgument("no sixth space", () -> x.between(0, 5, 0));
        Check.illegalArgument("no seventh space", () -> x.between(0, 6, 0));
        Check.illegalArgument("no space -1", () -> x.between(-1, 0, 0));
    }

    private static void oneConflict() {
        KeptHouse x = new KeptHouse(0L);
        x.edit(0, 0, 0, 1, 1, 3);
        x.edit(0, 0, 1, 1, 1, 3);
        x.merge(0);
        x.edit(1, 0, 1, 1, 1, 1);
        Check.due("one conflict", x.merge(1), -1);
        Check.due("it is", x.conflict(1, 0), 1);
        KeptHouse y = new KeptHouse(0L);
        y.edit(0, 0, 0, 1, 1, 3);
        y.merge(0);
        Check.due("edge 0 alone is a change", y.disk(0, 1, 0), 1);
        Check.due("edge 0 of the row", y.disk(0, 1, 12) & 3, 3);
        y.reopen();
        Check.due("edge 0 is kept", y.edge(0, 0), 3);
        KeptHouse z = new KeptHouse(0L);
        for (int line = 0; line < 6; line++) {
            z.edit(0, 2, 9 * line + 3, 1, 1, 1 + line % 3);
        }
        for (int column = 0; column < 8; column++) {
            z.edit(0, 2, 54 + 16 + column, 1, 1, 1 + column % 3);
        }
        z.merge(0);
        z.reopen();
        for (int line = 0; line < 6; line++) {
            Check.due("wall in line " + line, z.edge(2, 9 * line + 3), 1 + line % 3);
        }
        for (int column = 0; column < 8; column++) {
            Check.due("wall in column " + column, z.edge(2, 54 + 16 + column), 1 + column % 3);
        }
    }

    /** Spaces that hang together round corners, in all directions. */
    private static void crookedSpaces() {
        // Cells 1, 9 and 8: 8 is left of 9, and cell 0 is walled in by itself.
        KeptHouse x = new KeptHouse(0L);
        x.edit(0, 0, 1, 1, 1, 1);
        x.edit(0, 0, 54 + 8, 1, 1, 1);
        x.edit(0, 0, 2, 1, 1, 1);
        x.edit(0, 0, 11, 1, 1, 1);
        x.edit(0, 0, 54 + 16, 2, 1, 1);
        x.merge(0);
        Check.due("three spaces more than storeys", x.spaces(), 7);
        Check.due("cell 0", x.space(0, 2), 1);
        Check.due("the crooked one", x.space(1, 2), 3);
        Check.due("cell 8 is of it", x.spaceAt(0, 8), 1);
        Check.due("cell 9 is of it", x.spaceAt(0, 9), 1);
        Check.due("cell 10 is not", x.spaceAt(0, 10), 2);
        // A wall between the columns 3 and 4 up to the last line: the storey hangs together above it.
        KeptHouse y = new KeptHouse(0L);
        y.edit(0, 0, 4, 5, 9, 2);
        y.merge(0);
        Check.due("still one", y.spaces(), 5);
        Check.due("both sides of the wall", y.spaceAt(0, 4), 0);
        Check.due("a wall within a space", y.between(0, 0, 2), 0);
    }

    private static void told() {
        KeptHouse x = new KeptHouse(0L);
        Check.due("sun of hour 23", x.sun(3, 23, 4), 0);
        Check.illegalArgument("sun of hour 24", () -> x.sun(0, 24, 1));
        Check.illegalArgument("sun of side -1", () -> x.sun(-1, 0, 1));
        Check.illegalArgument("weather of hour -1", () -> x.weather(-1, 1));
        Check.due("weather of hour 23", x.weather(23, 1), 0);
        Check.illegalArgument("people of flat -1", () -> x.people(-1, 0, 1));
        Check.illegalArgument("people of hour -1", () -> x.people(0, -1, 1));
        Check.illegalArgument("flat in storey -1", () -> x.flat(-1, 0, 1));
        Check.illegalArgument("flat in cell -1", () -> x.flat(0, -1, 1));
        Check.illegalArgument("rate of circuit -1", () -> x.rate(-1, 1, 1));
        Check.illegalArgument("price -1", () -> x.price(-1, 1));
        Check.illegalArgument("cap -1", () -> x.price(0, -1));
        Check.illegalArgument("life of part -1", () -> x.life(-1, 1));
        Check.due("sun of hour 23 told anew", x.sun(3, 23, 5), 4);
    }

    private static void minutes() {
        KeptHouse x = new KeptHouse(0L);
        Check.due("the first space", x.detected(0), false);
        Check.due("the last space", x.detected(4), false);
        Check.due("the first cell burns", x.ignite(0, 0), true);
        Check.due("the last circuit", x.reset(10), false);
        Check.due("the first target", x.target(0), 200);
        Check.due("the last target", x.target(15), 1);
        Check.due("the house's meter", x.meter(10, 2), 0);
    }

    private static void access() {
        KeptHouse x = new KeptHouse(0L);
        Check.due("door at the last edge", x.door(0, 109), 0);
        Check.due("door at the first edge within", x.door(4, 1), 1);
        Check.due("hours 23 to 23", x.card(0, 0, 23, 23, false), 0);
        Check.due("in the last space", x.inside(4), 0);
        Check.illegalArgument("part of no worker", () -> x.order(-1, 1));
        Check.illegalArgument("ticket in storey -1", () -> x.ticket(-1, 0));
        Check.illegalArgument("ticket in cell -1", () -> x.ticket(0, -1));
        Check.due("ticket in the last cell", x.ticket(4, 47), 0);
    }

    private static void tapes() {
        KeptHouse x = new KeptHouse(0L);
        x.feed(9);
        Check.due("poke 0", x.poke(0, 0), 9);
        Check.due("poke 255", x.poke(0, 255), 0);
        Check.due("the last byte of the disk", x.disk(1, 199, 47), 0);
        x.crash(1000);
        x.crash(0);
        x.crash(-1);
        Check.due("the power does not fail", x.flat(0, 0, 1), 15);
    }
}
