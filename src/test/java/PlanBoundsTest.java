/** Boundary cases of the plan: the border, desks, conflicts, spaces, flats (promises 1 to 14). */
public final class PlanBoundsTest {
    private static final int NONE = KeptHouse.NONE;
    private static final int OPEN = 0;
    private static final int LIGHT = 1;
    private static final int HEAVY = 2;
    private static final int GLASS = 3;

    public static void main(String[] args) {
        firstPlan();
        cellsOfEdges();
        borderStays();
        howManyAreOthers();
        mineAndConflicts();
        backToItsBase();
        allConflicts();
        conflictsBeforeMany();
        fortyAndNoMore();
        manyAcrossStoreys();
        emptyMerge();
        rowsOfMerge();
        versions();
        mergeIsCut();
        mergeAfterTake();
        settledBothWays();
        settlingTheLast();
        spacesByStoreys();
        oneCellSpaces();
        flatOfTheLeastCell();
        heartAndArea();
        edgesOfASpace();
        betweenItself();
        aboveOneAnother();
        Check.end();
    }

    private static KeptHouse house() {
        return new KeptHouse(0L);
    }

    private static boolean isBorder(int e) {
        return e < 54 ? e % 9 == 0 || e % 9 == 8 : e < 62 || e >= 102;
    }

    /** "At first those at the border are HEAVY, all others OPEN": plan, drafts, all storeys. */
    private static void firstPlan() {
        for (int storey = 0; storey < 5; storey++) {
            KeptHouse x = house();
            for (int e = 0; e < 110; e++) {
                Check.due("edge " + e, x.edge(storey, e), isBorder(e) ? HEAVY : OPEN);
                for (int desk = 0; desk < 3; desk++) {
                    Check.due("draft " + e, x.draft(desk, storey, e), isBorder(e) ? HEAVY : OPEN);
                }
            }
        }
    }

    /** The lesser cell of an edge, written down anew from the document; NONE: the OUTSIDE. */
    private static int lesser(int e) {
        if (e < 54) {
            return e % 9 == 0 ? NONE : e / 9 * 8 + e % 9 - 1;
        }
        int d = e - 54;
        return d / 8 == 0 ? NONE : (d / 8 - 1) * 8 + d % 8;
    }

    private static int greater(int e) {
        if (e < 54) {
            return e % 9 == 8 ? NONE : e / 9 * 8 + e % 9;
        }
        int d = e - 54;
        return d / 8 == 6 ? NONE : d;
    }

    /** All edges of storey 0: a card that comes in through the border is led through each of them. */
    private static void cellsOfEdges() {
        for (int first = 0; first < 110; first += 18) {
            KeptHouse x = house();
            x.card(0, 0xFFFFF, 0, 23, false);
            for (int e = first; e < Math.min(110, first + 18); e++) {
                int door = x.door(0, e);
                if (isBorder(e)) {
                    Check.due("in by " + e, x.go(0, door), 0);
                    Check.due("cell of " + e, x.place(0), Math.max(lesser(e), greater(e)));
                    Check.due("out by " + e, x.go(0, door), 0);
                    Check.due("outside of " + e, x.place(0), NONE);
                }
            }
            int way = x.door(0, 0);
            x.go(0, way);
            for (int e = first; e < Math.min(110, first + 18); e++) {
                if (!isBorder(e)) {
                    Check.due("through " + e, x.go(0, e - first), 0);
                    Check.due("the greater cell of " + e, x.place(0), greater(e));
                }
            }
        }
        // A wall through the whole storey at an edge's column or line: the lesser cell can be left.
        for (int e : new int[] {1, 7, 46, 52, 62, 69, 94, 101}) {
            KeptHouse x = house();
            int from = e < 54 ? e % 9 : 54 + (e - 54) / 8 * 8;
            x.edit(0, 0, from, e < 54 ? 6 : 8, e < 54 ? 9 : 1, LIGHT);
            x.merge(0);
            x.card(0, 3, 0, 23, false);
            x.door(0, e < 54 ? 0 : 54);
            x.door(0, e);
            x.go(0, 0);
            Check.due("over " + e, x.go(0, 1), 0);
            Check.due("behind it", x.place(0), greater(e));
            Check.due("and back", x.go(0, 1), 0);
            Check.due("the lesser cell", x.place(0), lesser(e));
        }
    }

    /** "One at the border stays as it is when the kind is OPEN or LIGHT", at each border edge. */
    private static void borderStays() {
        for (int e = 0; e < 110; e++) {
            if (isBorder(e)) {
                KeptHouse x = house();
                Check.due("open " + e, x.edit(0, 1, e, 1, 1, OPEN), 0);
                Check.due("light " + e, x.edit(0, 1, e, 1, 1, LIGHT), 0);
                Check.due("still heavy", x.draft(0, 1, e), HEAVY);
                Check.due("glass " + e, x.edit(0, 1, e, 1, 1, GLASS), 1);
                Check.due("open again", x.edit(0, 1, e, 1, 1, OPEN), 0);
                Check.due("still glass", x.draft(0, 1, e), GLASS);
                Check.due("heavy " + e, x.edit(0, 1, e, 1, 1, HEAVY), 1);
            } else {
                KeptHouse x = house();
                Check.due("light within " + e, x.edit(0, 1, e, 1, 1, LIGHT), 1);
                Check.due("open within " + e, x.edit(0, 1, e, 1, 1, OPEN), 1);
            }
        }
    }

    /** "How many are others then": none that is already of the kind. */
    private static void howManyAreOthers() {
        KeptHouse x = house();
        Check.due("the border is heavy already", x.edit(0, 0, 0, 110, 1, HEAVY), 82);
        Check.due("none is another", x.edit(0, 0, 0, 110, 1, HEAVY), 0);
        Check.due("one is", x.edit(0, 0, 1, 1, 1, GLASS), 1);
        Check.due("all but that", x.edit(0, 0, 0, 110, 1, GLASS), 109);
        Check.due("each second one", x.edit(0, 0, 0, 55, 2, HEAVY), 55);
        Check.due("edge 108", x.draft(0, 0, 108), HEAVY);
        Check.due("edge 109", x.draft(0, 0, 109), GLASS);
        Check.due("the base is not looked at", x.edit(0, 0, 1, 1, 1, OPEN), 1);
    }

    /** All ways in which base (OPEN), draft and plan may differ at one edge. */
    private static void mineAndConflicts() {
        int[] kinds = {OPEN, LIGHT, HEAVY};
        for (int plan : kinds) {
            for (int draft : kinds) {
                KeptHouse x = house();
                x.edit(0, 2, 10, 1, 1, plan);
                x.merge(0);
                x.edit(1, 2, 10, 1, 1, draft);
                boolean conflict = draft != OPEN && plan != OPEN && plan != draft;
                String what = "plan " + plan + ", draft " + draft;
                Check.due(what, x.conflict(1, 0), conflict ? 2 * 128 + 10 : NONE);
                Check.due(what + ", merge", x.merge(1), conflict ? -1 : 2);
                Check.due(what + ", plan then", x.edge(2, 10), conflict || draft == OPEN ? plan : draft);
                Check.due(what + ", draft then", x.draft(1, 2, 10), conflict ? draft : draft == OPEN ? plan : draft);
            }
        }
    }

    /** A draft that is its base again is not MINE: the plan's edge stays. */
    private static void backToItsBase() {
        KeptHouse x = house();
        x.edit(1, 0, 1, 1, 1, HEAVY);
        x.edit(0, 0, 1, 1, 1, LIGHT);
        x.merge(0);
        Check.due("a conflict", x.merge(1), -1);
        Check.due("drawn back", x.edit(1, 0, 1, 1, 1, OPEN), 1);
        Check.due("none", x.conflict(1, 0), NONE);
        Check.due("merged", x.merge(1), 2);
        Check.due("the plan's stays", x.edge(0, 1), LIGHT);
        Check.due("and is drafted", x.draft(1, 0, 1), LIGHT);
        Check.due("and is the base: drawn, it is mine", x.edit(1, 0, 1, 1, 1, OPEN), 1);
        Check.due("merged, too", x.merge(1), 3);
        Check.due("open again", x.edge(0, 1), OPEN);
    }

    /** The most conflicts that there can be: 82 edges of each of 5 storeys, none at the border. */
    private static void allConflicts() {
        KeptHouse x = house();
        for (int storey = 0; storey < 5; storey++) {
            x.edit(0, storey, 0, 110, 1, GLASS);
            for (int line = 0; line < 6; line++) {
                x.edit(0, storey, 9 * line + 1, 7, 1, OPEN);
            }
            x.edit(0, storey, 54 + 8, 40, 1, OPEN);
        }
        Check.due("the border alone", x.merge(0), 1);
        for (int storey = 0; storey < 5; storey++) {
            x.edit(0, storey, 1, 1, 1, HEAVY);
            x.edit(0, storey, 101, 1, 1, HEAVY);
            x.edit(1, storey, 0, 110, 1, LIGHT);
        }
        x.merge(0);
        Check.due("two in each storey", x.merge(1), -10);
        Check.due("first", x.conflict(1, 0), 1);
        Check.due("second", x.conflict(1, 1), 101);
        Check.due("third: by storeys", x.conflict(1, 2), 128 + 1);
        Check.due("the last", x.conflict(1, 9), 4 * 128 + 101);
        Check.due("one behind it", x.conflict(1, 10), NONE);
        Check.due("far behind it", x.conflict(1, Integer.MAX_VALUE), NONE);
        Check.due("of a desk without any", x.conflict(2, 0), NONE);
    }

    /** Conflicts are told though there would be more than 40 spaces as well. */
    private static void conflictsBeforeMany() {
        KeptHouse x = house();
        x.edit(0, 0, 1, 1, 1, LIGHT);
        x.merge(0);
        x.edit(1, 0, 0, 110, 1, HEAVY);
        Check.due("a conflict", x.merge(1), -1);
        Check.due("settled", x.settle(1, 0, false), 0);
        Check.due("now they are many", x.merge(1), KeptHouse.MANY);
    }

    /** Single cells of storey 0, n of them along the lines: n + 5 spaces. */
    private static void wallIn(KeptHouse x, int n) {
        for (int cell = 0; cell < n; cell++) {
            int edge = cell / 8 * 9 + cell % 8;
            x.edit(0, 0, edge, 2, 1, LIGHT);
            x.edit(0, 0, 54 + cell, 2, 8, LIGHT);
        }
    }

    /** "MANY: there would be more than 40 spaces": 39, 40 and 41. */
    private static void fortyAndNoMore() {
        KeptHouse x = house();
        wallIn(x, 34);
        Check.due("39", x.merge(0), 1);
        Check.due("spaces", x.spaces(), 39);
        wallIn(x, 35);
        Check.due("40", x.merge(0), 2);
        Check.due("spaces", x.spaces(), 40);
        wallIn(x, 36);
        Check.due("41", x.merge(0), KeptHouse.MANY);
        Check.due("spaces still", x.spaces(), 40);
        Check.due("fewer again", x.take(0), 2);
        x.edit(0, 0, 1, 1, 1, OPEN);
        Check.due("39 again", x.merge(0), 3);
        Check.due("spaces", x.spaces(), 39);
    }

    /** The 40 are of all storeys together, and of the plan as it would be, not of the draft. */
    private static void manyAcrossStoreys() {
        KeptHouse x = house();
        wallIn(x, 34);
        x.merge(0);
        x.edit(1, 4, 4, 6, 9, GLASS);
        Check.due("the draft of desk 1 has six, the plan would have 40", x.merge(1), 2);
        Check.due("spaces", x.spaces(), 40);
        x.edit(2, 3, 4, 6, 9, GLASS);
        Check.due("the draft of desk 2 has six, the plan would have 41", x.merge(2), KeptHouse.MANY);
        x.edit(0, 0, 1, 1, 1, OPEN);
        Check.due("one space less", x.merge(0), 3);
        Check.due("now it can be", x.merge(2), 4);
        Check.due("spaces", x.spaces(), 40);
    }

    /** A merge with nothing MINE is done all the same: a version more, no rows; the power can't fail. */
    private static void emptyMerge() {
        KeptHouse x = house();
        x.crash(0);
        Check.due("done", x.merge(2), 1);
        Check.due("not down", x.isDown(), false);
        Check.due("no rows", x.rows(2), 1);
        Check.due("no keys", x.rows(3), 0);
    }

    /** "Rows 1 of all storeys of which edges of the plan are others then": each set of storeys. */
    private static void rowsOfMerge() {
        for (int set = 1; set < 32; set++) {
            KeptHouse x = house();
            int n = 0;
            for (int storey = 0; storey < 5; storey++) {
                if ((set >> storey & 1) == 1) {
                    x.edit(0, storey, storey == 2 ? 109 : 0, 1, 1, GLASS);
                    n++;
                }
            }
            x.merge(0);
            Check.due("rows of set " + set, x.rows(2), 1 + n);
            int row = 1;
            for (int storey = 0; storey < 5; storey++) {
                if ((set >> storey & 1) == 1) {
                    Check.due("kind", x.disk(0, row, 0), 1);
                    Check.due("storey", x.disk(0, row, 1), storey);
                    Check.due("last", x.disk(0, row, 2), row == n ? 1 : 0);
                    row++;
                }
            }
        }
    }

    /** THE VERSION: 0 at first and when the house begins anew; take() tells it and does not change it. */
    private static void versions() {
        KeptHouse x = house();
        Check.due("first", x.version(), 0);
        Check.due("taken", x.take(1), 0);
        x.merge(0);
        x.merge(1);
        Check.due("two", x.version(), 2);
        Check.due("taken then", x.take(1), 2);
        Check.due("still two", x.version(), 2);
        x.reopen();
        Check.due("anew", x.version(), 0);
        Check.due("taken anew", x.take(0), 0);
    }

    private static void mergeIsCut() {
        KeptHouse x = house();
        x.edit(0, 0, 0, 1, 1, GLASS);
        x.edit(0, 1, 0, 1, 1, GLASS);
        x.crash(1);
        Check.due("cut in its second row", x.merge(0), KeptHouse.CUT);
        x.reopen();
        Check.due("nothing of it: storey 0", x.edge(0, 0), HEAVY);
        Check.due("storey 1", x.edge(1, 0), HEAVY);
        Check.due("nor of the draft", x.draft(0, 0, 0), HEAVY);
        x.edit(0, 0, 0, 1, 1, GLASS);
        x.edit(0, 1, 0, 1, 1, GLASS);
        x.crash(2);
        Check.due("just whole", x.merge(0), 1);
        x.reopen();
        Check.due("storey 0 then", x.edge(0, 0), GLASS);
        Check.due("storey 1 then", x.edge(1, 0), GLASS);
    }

    private static void mergeAfterTake() {
        KeptHouse x = house();
        x.edit(1, 0, 1, 1, 1, HEAVY);
        x.edit(0, 0, 1, 1, 1, LIGHT);
        x.merge(0);
        Check.due("a conflict", x.conflict(1, 0), 1);
        x.take(1);
        Check.due("draft and base are the plan", x.conflict(1, 0), NONE);
        Check.due("draft", x.draft(1, 0, 1), LIGHT);
        Check.due("merge", x.merge(1), 2);
        Check.due("plan", x.edge(0, 1), LIGHT);
    }

    private static void settledBothWays() {
        KeptHouse x = house();
        x.edit(0, 0, 1, 3, 1, LIGHT);
        x.merge(0);
        x.edit(1, 0, 1, 3, 1, HEAVY);
        Check.due("mine: its base is the plan's", x.settle(1, 1, true), 2);
        Check.due("the draft stays", x.draft(1, 0, 2), HEAVY);
        Check.due("it is no conflict", x.conflict(1, 1), 3);
        Check.due("the plan's: draft and base", x.settle(1, 1, false), 1);
        Check.due("the draft is the plan's", x.draft(1, 0, 3), LIGHT);
        Check.due("the plan moves on", x.edit(0, 0, 2, 2, 1, GLASS), 2);
        x.merge(0);
        Check.due("mine is a conflict again, the other is none", x.merge(1), -2);
        Check.due("first", x.conflict(1, 0), 1);
        Check.due("second", x.conflict(1, 1), 2);
        Check.due("none", x.conflict(1, 2), NONE);
    }

    private static void settlingTheLast() {
        KeptHouse x = house();
        x.edit(0, 4, 101, 1, 1, LIGHT);
        x.merge(0);
        x.edit(1, 4, 101, 1, 1, HEAVY);
        Check.due("there is one alone", x.settle(1, 1, true), NONE);
        Check.due("settled: none is left", x.settle(1, 0, true), 0);
        Check.due("nothing to settle", x.settle(1, 0, true), NONE);
        Check.due("merged", x.merge(1), 2);
        Check.due("mine", x.edge(4, 101), HEAVY);
    }

    /** "Numbered from 0 on by their storeys, then by their least cells." */
    private static void spacesByStoreys() {
        KeptHouse x = house();
        Told.room(x, 1, 47);
        Told.room(x, 1, 9);
        Told.room(x, 3, 0);
        int[][] want = {{0, 0, 48}, {1, 0, 46}, {1, 9, 1}, {1, 47, 1}, {2, 0, 48}, {3, 0, 1}, {3, 1, 47}, {4, 0, 48}};
        Check.due("spaces", x.spaces(), want.length);
        for (int k = 0; k < want.length; k++) {
            Check.due("storey of " + k, x.space(k, 0), want[k][0]);
            Check.due("least cell of " + k, x.space(k, 1), want[k][1]);
            Check.due("cells of " + k, x.space(k, 2), want[k][2]);
        }
    }

    /** The least space, one cell in a corner, and the largest, a whole storey. */
    private static void oneCellSpaces() {
        for (int cell : new int[] {0, 7, 40, 47}) {
            KeptHouse x = house();
            Told.room(x, 0, cell);
            int k = x.spaceAt(0, cell);
            Check.due("one cell", x.space(k, 2), 1);
            Check.due("its border", x.space(k, 4), 2);
            Check.due("the rest", x.space(1 - k, 2), 47);
            Check.due("its border", x.space(1 - k, 4), 26);
            Check.due("between", x.between(k, 1 - k, LIGHT), 2);
        }
    }

    /** "A space is of the flat of its least cell"; 15: none. */
    private static void flatOfTheLeastCell() {
        KeptHouse x = house();
        Check.due("none", x.space(0, 3), 15);
        x.flat(0, 1, 5);
        Check.due("not of the second cell", x.space(0, 3), 15);
        x.flat(0, 0, 0);
        Check.due("of the first", x.space(0, 3), 0);
        x.flat(0, 0, 15);
        Check.due("none again", x.space(0, 3), 15);
        Told.room(x, 0, 0);
        Check.due("the other's least cell is 1", x.space(1, 3), 5);
    }

    /** "THE HEART of a flat is its least space. AREA: how many cells its spaces have", by what loads tell. */
    private static void heartAndArea() {
        KeptHouse x = new KeptHouse(Told.seed(2, 1, false));
        Told.room(x, 1, 3);
        x.flat(1, 3, 2);
        x.people(2, 0, 1);
        x.run(1);
        Check.due("one cell", x.circuit(2, 0), 15 + 6);
        Check.due("its heart is stale", x.cell(1, 3, 1) > 0, true);
        x.flat(4, 0, 2);
        x.run(1);
        Check.due("a storey more", x.circuit(2, 0), 15 + 6 * 49);
        Check.due("not the heart", x.cell(4, 0, 1), 0);
        x.flat(1, 3, 15);
        x.run(1);
        Check.due("the storey alone", x.circuit(2, 0), 15 + 6 * 48);
        Check.due("it is the heart now", x.cell(4, 0, 1) > 0, true);
        x.flat(4, 0, 15);
        x.run(1);
        Check.due("no heart, no people", x.circuit(2, 0), 0);
    }

    /** HEAVY and GLASS edges at the border: 28 in all, each of one kind. */
    private static void edgesOfASpace() {
        KeptHouse x = house();
        Check.due("heavy", x.space(0, 4), 28);
        Check.due("glass", x.space(0, 5), 0);
        x.edit(0, 0, 0, 1, 1, GLASS);
        x.merge(0);
        Check.due("one less", x.space(0, 4), 27);
        Check.due("one more", x.space(0, 5), 1);
        x.edit(0, 0, 0, 110, 1, GLASS);
        for (int line = 0; line < 6; line++) {
            x.edit(0, 0, 9 * line + 1, 7, 1, OPEN);
        }
        x.edit(0, 0, 62, 40, 1, OPEN);
        x.merge(0);
        Check.due("no heavy one", x.space(0, 4), 0);
        Check.due("all glass", x.space(0, 5), 28);
        KeptHouse y = house();
        y.edit(0, 0, 1, 1, 1, HEAVY);
        y.edit(0, 0, 2, 1, 1, GLASS);
        y.merge(0);
        Check.due("those within do not count", y.space(0, 4), 28);
        Check.due("nor glass ones", y.space(0, 5), 0);
    }

    /** "0 between one and itself, whatever stands in it." */
    private static void betweenItself() {
        KeptHouse x = house();
        x.edit(0, 0, 1, 1, 1, LIGHT);
        x.edit(0, 0, 2, 1, 1, HEAVY);
        x.edit(0, 0, 3, 1, 1, GLASS);
        x.merge(0);
        for (int kind = 0; kind < 4; kind++) {
            Check.due("kind " + kind, x.between(0, 0, kind), 0);
        }
        KeptHouse y = house();
        y.edit(0, 0, 4, 1, 1, LIGHT);
        y.edit(0, 0, 13, 2, 9, HEAVY);
        y.edit(0, 0, 31, 3, 9, GLASS);
        y.merge(0);
        for (int kind = 1; kind < 4; kind++) {
            Check.due("kind " + kind, y.between(0, 1, kind), kind);
            Check.due("turned", y.between(1, 0, kind), kind);
        }
        Check.due("the border is between no two", y.between(0, 2, HEAVY), 0);
    }

    /** Cells lie one above the other in storeys next to one another alone. */
    private static void aboveOneAnother() {
        KeptHouse x = house();
        Check.due("0 and 1", x.between(0, 1, 0), 48);
        Check.due("1 and 0", x.between(1, 0, 0), 48);
        Check.due("3 and 4", x.between(3, 4, 0), 48);
        Check.due("0 and 2", x.between(0, 2, 0), 0);
        Check.due("0 and 4", x.between(0, 4, 0), 0);
        Told.room(x, 2, 47);
        Check.due("the last cell", x.between(1, x.spaceAt(2, 47), 0), 1);
        Check.due("the others", x.between(1, 2, 0), 47);
        Check.due("above it", x.between(x.spaceAt(2, 47), x.spaceAt(3, 0), 0), 1);
        Check.due("of one storey", x.between(2, x.spaceAt(2, 47), 0), 0);
    }
}
