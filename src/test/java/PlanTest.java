/** Promises 1 to 13: a new object, and the plan. */
public final class PlanTest {
    private static final int OPEN = 0;
    private static final int LIGHT = 1;
    private static final int HEAVY = 2;
    private static final int GLASS = 3;

    public static void main(String[] args) {
        newHouse();
        geometry();
        editing();
        wrongEdits();
        merging();
        conflicts();
        settling();
        manySpaces();
        taking();
        spaceFacts();
        betweenSpaces();
        wrongArguments();
        Check.end();
    }

    private static void newHouse() {
        KeptHouse x = new KeptHouse(7L);
        Check.due("version", x.version(), 0);
        Check.due("spaces", x.spaces(), 5);
        Check.due("time", x.state(10), 0);
        Check.due("keys", x.rows(3), 0);
        Check.due("area", x.rows(0), 0);
        Check.due("generation", x.rows(1), 1);
        Check.due("rows", x.rows(2), 1);
        Check.due("down", x.isDown(), false);
        for (int storey = 0; storey < 5; storey++) {
            Check.due("left border", x.edge(storey, 0), HEAVY);
            Check.due("inner", x.edge(storey, 1), OPEN);
            Check.due("draft", x.draft(2, storey, 109), HEAVY);
        }
    }

    /** Just the 28 edges of a storey at the border are HEAVY in the first plan. */
    private static void geometry() {
        KeptHouse x = new KeptHouse(0L);
        for (int e = 0; e < 110; e++) {
            boolean border = e < 54 ? e % 9 == 0 || e % 9 == 8 : e < 62 || e >= 102;
            Check.due("edge " + e, x.edge(3, e), border ? HEAVY : OPEN);
        }
        // A wall on all sides of cell 9 (column 1, line 1) cuts it out.
        x.edit(0, 1, 10, 2, 1, LIGHT);
        x.edit(0, 1, 54 + 9, 2, 8, LIGHT);
        Check.due("merge", x.merge(0), 1);
        Check.due("spaces", x.spaces(), 6);
        Check.due("space of cell 9", x.spaceAt(1, 9), 2);
        Check.due("space of cell 8", x.spaceAt(1, 8), 1);
        Check.due("space of cell 17", x.spaceAt(1, 17), 1);
        Check.due("space above", x.spaceAt(2, 9), 3);
        Check.due("size", x.space(2, 2), 1);
        Check.due("size of the rest", x.space(1, 2), 47);
    }

    private static void editing() {
        KeptHouse x = new KeptHouse(0L);
        Check.due("all of a storey", x.edit(0, 0, 0, 110, 1, GLASS), 110);
        Check.due("again", x.edit(0, 0, 0, 110, 1, GLASS), 0);
        Check.due("border stays", x.edit(0, 0, 0, 110, 1, OPEN), 82);
        Check.due("border is glass", x.draft(0, 0, 8), GLASS);
        Check.due("inner is open", x.draft(0, 0, 7), OPEN);
        Check.due("border not light", x.edit(0, 0, 0, 6, 9, LIGHT), 0);
        Check.due("border heavy", x.edit(0, 0, 0, 6, 9, HEAVY), 6);
        Check.due("steps", x.edit(1, 4, 4, 3, 35, LIGHT), 3);
        Check.due("first", x.draft(1, 4, 4), LIGHT);
        Check.due("second", x.draft(1, 4, 39), LIGHT);
        Check.due("third", x.draft(1, 4, 74), LIGHT);
        Check.due("not the plan", x.edge(4, 4), OPEN);
        Check.due("not another desk", x.draft(2, 4, 4), OPEN);
        Check.due("the last edge", x.edit(2, 4, 109, 1, 110, GLASS), 1);
    }

    private static void wrongEdits() {
        KeptHouse x = new KeptHouse(0L);
        Check.illegalArgument("desk -1", () -> x.edit(-1, 0, 0, 1, 1, 2));
        Check.illegalArgument("desk 3", () -> x.edit(3, 0, 0, 1, 1, 2));
        Check.illegalArgument("storey -1", () -> x.edit(0, -1, 0, 1, 1, 2));
        Check.illegalArgument("storey 5", () -> x.edit(0, 5, 0, 1, 1, 2));
        Check.illegalArgument("edge -1", () -> x.edit(0, 0, -1, 1, 1, 2));
        Check.illegalArgument("edge 110", () -> x.edit(0, 0, 110, 1, 1, 2));
        Check.illegalArgument("n 0", () -> x.edit(0, 0, 0, 0, 1, 2));
        Check.illegalArgument("n 111", () -> x.edit(0, 0, 0, 111, 1, 2));
        Check.illegalArgument("step 0", () -> x.edit(0, 0, 0, 1, 0, 2));
        Check.illegalArgument("step 111", () -> x.edit(0, 0, 0, 1, 111, 2));
        Check.illegalArgument("kind -1", () -> x.edit(0, 0, 0, 1, 1, -1));
        Check.illegalArgument("kind 4", () -> x.edit(0, 0, 0, 1, 1, 4));
        Check.illegalArgument("beyond the last", () -> x.edit(0, 0, 100, 11, 1, 3));
        Check.due("nothing was changed", x.draft(0, 0, 102), HEAVY);
    }

    private static void merging() {
        KeptHouse x = new KeptHouse(0L);
        Check.due("nothing mine", x.merge(0), 1);
        Check.due("no group", x.rows(2), 1);
        x.edit(0, 0, 4, 6, 9, LIGHT);
        x.edit(0, 3, 4, 6, 9, HEAVY);
        Check.due("both storeys", x.merge(0), 2);
        Check.due("version", x.version(), 2);
        Check.due("plan", x.edge(3, 4), HEAVY);
        Check.due("two rows", x.rows(2), 3);
        Check.due("row of storey 0", x.disk(0, 1, 1), 0);
        Check.due("not last", x.disk(0, 1, 2), 0);
        Check.due("row of storey 3", x.disk(0, 2, 1), 3);
        Check.due("last", x.disk(0, 2, 2), 1);
        Check.due("the same edge", x.edit(1, 0, 4, 1, 1, LIGHT), 1);
        Check.due("no conflict when both are alike", x.merge(1), 3);
        Check.due("and no group", x.rows(2), 3);
        Check.due("the desk has the whole plan", x.draft(1, 3, 13), HEAVY);
    }

    private static void conflicts() {
        KeptHouse x = new KeptHouse(0L);
        x.edit(0, 0, 4, 6, 9, LIGHT);
        x.edit(0, 2, 60, 1, 1, GLASS);
        x.merge(0);
        x.edit(1, 0, 13, 2, 9, HEAVY);
        x.edit(1, 2, 60, 1, 1, HEAVY);
        Check.due("as its base", x.edit(1, 2, 60, 1, 1, HEAVY), 0);
        Check.due("two conflicts", x.merge(1), -2);
        Check.due("version stays", x.version(), 1);
        Check.due("first", x.conflict(1, 0), 13);
        Check.due("second", x.conflict(1, 1), 22);
        Check.due("no third", x.conflict(1, 2), KeptHouse.NONE);
        Check.due("none of desk 2", x.conflict(2, 0), KeptHouse.NONE);
        x.edit(1, 4, 50, 1, 1, GLASS);
        x.edit(2, 4, 50, 1, 1, LIGHT);
        x.merge(2);
        Check.due("now three", x.merge(1), -3);
        Check.due("by storeys", x.conflict(1, 2), 4 * 128 + 50);
    }

    private static void settling() {
        KeptHouse x = new KeptHouse(0L);
        x.edit(0, 0, 4, 6, 9, LIGHT);
        x.merge(0);
        x.edit(1, 0, 4, 2, 9, HEAVY);
        Check.due("no such", x.settle(1, 2, true), KeptHouse.NONE);
        Check.due("for the desk", x.settle(1, 0, true), 1);
        Check.due("draft stays", x.draft(1, 0, 4), HEAVY);
        Check.due("for the plan", x.settle(1, 0, false), 0);
        Check.due("draft is the plan's", x.draft(1, 0, 13), LIGHT);
        Check.due("none left", x.settle(1, 0, false), KeptHouse.NONE);
        Check.due("merge", x.merge(1), 2);
        Check.due("mine", x.edge(0, 4), HEAVY);
        Check.due("the plan's", x.edge(0, 13), LIGHT);
        Check.illegalArgument("k below 0", () -> x.settle(1, -1, true));
        Check.illegalArgument("desk", () -> x.settle(3, 0, true));
    }

    /** Columns of storey 0 (8 spaces) times lines: 8 * 4 and 4 more storeys are 36, 8 * 5 are 44. */
    private static void manySpaces() {
        KeptHouse x = new KeptHouse(0L);
        for (int column = 1; column < 8; column++) {
            x.edit(0, 0, column, 6, 9, LIGHT);
        }
        x.edit(0, 0, 62, 24, 1, LIGHT);
        Check.due("36 spaces", x.merge(0), 1);
        Check.due("spaces", x.spaces(), 36);
        x.edit(0, 4, 1, 6, 9, LIGHT);
        x.edit(0, 4, 2, 6, 9, LIGHT);
        x.edit(0, 4, 3, 6, 9, LIGHT);
        x.edit(0, 4, 4, 6, 9, LIGHT);
        Check.due("40 spaces", x.merge(0), 2);
        Check.due("the last", x.spaceAt(4, 47), 39);
        x.edit(0, 4, 5, 6, 9, LIGHT);
        Check.due("41 spaces", x.merge(0), KeptHouse.MANY);
        Check.due("nothing was done", x.version(), 2);
        Check.due("plan", x.edge(4, 5), OPEN);
        Check.due("spaces", x.spaces(), 40);
        Check.due("draft stays", x.draft(0, 4, 5), LIGHT);
    }

    private static void taking() {
        KeptHouse x = new KeptHouse(0L);
        x.edit(0, 0, 4, 6, 9, LIGHT);
        x.merge(0);
        x.edit(1, 0, 4, 1, 1, GLASS);
        Check.due("version", x.take(1), 1);
        Check.due("draft is the plan's", x.draft(1, 0, 4), LIGHT);
        x.edit(1, 0, 4, 1, 1, GLASS);
        Check.due("base, too", x.merge(1), 2);
        Check.due("plan", x.edge(0, 4), GLASS);
    }

    private static void spaceFacts() {
        KeptHouse x = new KeptHouse(0L);
        x.edit(0, 2, 4, 6, 9, HEAVY);
        x.edit(0, 2, 0, 3, 9, GLASS);
        x.edit(0, 2, 54, 2, 1, GLASS);
        x.merge(0);
        x.flat(2, 4, 6);
        // The left half: 6 edges left, 4 below, 4 above, of which 5 are GLASS.
        long[] left = {2, 0, 24, 15, 9, 5, 180};
        long[] right = {2, 4, 24, 6, 14, 0, 180};
        for (int what = 0; what < 7; what++) {
            Check.due("left " + what, x.space(2, what), left[what]);
            Check.due("right " + what, x.space(3, what), right[what]);
        }
        x.flat(2, 5, 9);
        Check.due("the least cell's flat", x.space(3, 3), 6);
    }

    private static void betweenSpaces() {
        KeptHouse x = new KeptHouse(0L);
        x.edit(0, 0, 4, 6, 9, LIGHT);
        x.edit(0, 0, 4, 2, 9, GLASS);
        x.edit(0, 0, 22, 1, 9, HEAVY);
        x.edit(0, 0, 1, 1, 1, LIGHT);
        x.merge(0);
        Check.due("light", x.between(0, 1, LIGHT), 3);
        Check.due("heavy", x.between(1, 0, HEAVY), 1);
        Check.due("glass", x.between(0, 1, GLASS), 2);
        Check.due("one above the other", x.between(2, 0, 0), 24);
        Check.due("same storey", x.between(0, 1, 0), 0);
        Check.due("two storeys away", x.between(0, 3, 0), 0);
        Check.due("itself", x.between(0, 0, LIGHT), 0);
        Check.due("other storeys", x.between(0, 2, LIGHT), 0);
    }

    private static void wrongArguments() {
        KeptHouse x = new KeptHouse(0L);
        Check.illegalArgument("take -1", () -> x.take(-1));
        Check.illegalArgument("take 3", () -> x.take(3));
        Check.illegalArgument("merge -1", () -> x.merge(-1));
        Check.illegalArgument("merge 3", () -> x.merge(3));
        Check.illegalArgument("conflict desk", () -> x.conflict(3, 0));
        Check.illegalArgument("conflict k", () -> x.conflict(0, -1));
        Check.due("conflict of a great k", x.conflict(0, Integer.MAX_VALUE), KeptHouse.NONE);
        Check.illegalArgument("edge storey", () -> x.edge(5, 0));
        Check.illegalArgument("edge -1", () -> x.edge(0, -1));
        Check.illegalArgument("edge 110", () -> x.edge(0, 110));
        Check.illegalArgument("draft desk", () -> x.draft(3, 0, 0));
        Check.illegalArgument("draft storey", () -> x.draft(0, -1, 0));
        Check.illegalArgument("draft edge", () -> x.draft(0, 0, 110));
        Check.illegalArgument("space 5", () -> x.space(5, 0));
        Check.illegalArgument("space -1", () -> x.space(-1, 0));
        Check.illegalArgument("space what 7", () -> x.space(0, 7));
        Check.illegalArgument("space what -1", () -> x.space(0, -1));
        Check.illegalArgument("spaceAt storey", () -> x.spaceAt(5, 0));
        Check.illegalArgument("spaceAt cell", () -> x.spaceAt(0, 48));
        Check.illegalArgument("between a", () -> x.between(5, 0, 0));
        Check.illegalArgument("between b", () -> x.between(0, -1, 0));
        Check.illegalArgument("between kind 4", () -> x.between(0, 1, 4));
        Check.illegalArgument("between kind -1", () -> x.between(0, 0, -1));
    }
}
