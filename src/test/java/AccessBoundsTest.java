/** Boundary cases of doors, cards and the log (promises 37 to 42), and of points (43 and 44). */
public final class AccessBoundsTest {
    private static final int NONE = KeptHouse.NONE;
    private static final int FULL = KeptHouse.FULL;

    public static void main(String[] args) {
        doorsAtTheBorder();
        leastNumbers();
        doorRow();
        allRights();
        fromTo();
        overMidnight();
        oneHour();
        firstThatFits();
        notAtTheDoor();
        bothCellsOfOneSpace();
        severalAtOneEdge();
        toldAnew();
        fortyCardsInside();
        wallsAfterwards();
        sixtyFourRows();
        cardRow();
        anew();
        pointValues();
        fortyEightValues();
        pointToldAnew();
        pointsAnew();
        pointRow();
        cuts();
        Check.end();
    }

    private static boolean isBorder(int e) {
        return e < 54 ? e % 9 == 0 || e % 9 == 8 : e < 62 || e >= 102;
    }

    /** "At an edge that is not at the border, or at the border of storey 0": all edges of storeys 0, 1 and 4. */
    private static void doorsAtTheBorder() {
        for (int storey : new int[] {0, 1, 4}) {
            for (int e = 0; e < 110; e++) {
                KeptHouse x = new KeptHouse(0L);
                int s = storey;
                int edge = e;
                if (storey > 0 && isBorder(e)) {
                    Check.illegalArgument("door in storey " + s + " at " + e, () -> x.door(s, edge));
                    Check.due("no key", x.rows(3), 0);
                } else {
                    Check.due("door in storey " + s + " at " + e, x.door(s, edge), 0);
                }
            }
        }
    }

    /** "The least number that none had when it was told": gaps of an image are filled first. */
    private static void leastNumbers() {
        KeptHouse x = new KeptHouse(0L);
        new Image().key(13, 1, 1, 0, 0).key(13, 3, 1, 0, 0).key(13, 18, 1, 0, 0).feed(x);
        Check.due("put", x.put(), 0);
        for (int d = 0; d < 20; d++) {
            if (d != 1 && d != 3 && d != 18) {
                Check.due("the next", x.door(0, 8), d);
            }
        }
        Check.due("full", x.door(0, 8), FULL);
    }

    private static void doorRow() {
        KeptHouse x = new KeptHouse(0L);
        x.door(0, 109);
        x.door(4, 101);
        Check.due("kind", x.disk(0, 2, 0), 13);
        Check.due("number", x.disk(0, 2, 1), 1);
        Check.due("1", x.disk(0, 2, 12), 1);
        Check.due("storey", x.disk(0, 2, 13), 4);
        Check.due("edge", x.disk(0, 2, 14), 101);
        Check.due("nothing behind", x.disk(0, 2, 15), 0);
        x.reopen();
        Check.due("two are there", x.door(0, 0), 2);
    }

    /** "RIGHTS (doors that there are, or that come later: bits 0 .. 19)": the first and the last bit. */
    private static void allRights() {
        KeptHouse x = new KeptHouse(0L);
        x.card(0, 1, 0, 23, false);
        x.card(1, 1 << 19, 0, 23, false);
        x.card(2, 0xFFFFF, 0, 23, false);
        x.card(3, 0, 0, 23, false);
        for (int d = 0; d < 20; d++) {
            x.door(0, 0);
        }
        int[][] due = {{0, 1}, {1, 0}, {0, 0}, {1, 1}};
        for (int card = 0; card < 4; card++) {
            Check.due("card " + card + " at door 0", x.go(card, 0), due[card][0]);
            if (x.place(card) != NONE) {
                x.go(card, 0);
            }
            Check.due("card " + card + " at door 19", x.go(card, 19), due[card][1]);
        }
        Check.due("door 1 is of card 0 not", x.go(0, 1), 1);
        Check.due("door 18 is of card 1 not", x.go(1, 18), 1);
    }

    /** Who goes in hour h: 0, or 2. */
    private static void hours(int from, int to, int[] probe, boolean[] due) {
        KeptHouse x = new KeptHouse(0L);
        x.door(0, 0);
        x.card(0, 1, from, to, false);
        for (int i = 0; i < probe.length; i++) {
            Told.runTo(x, probe[i]);
            Check.due("hours " + from + " .. " + to + " at " + probe[i], x.go(0, 0), due[i] ? 0 : 2);
        }
    }

    /** "Hours FROM .. TO, both with them": the minutes before and behind. */
    private static void fromTo() {
        hours(1, 2, new int[] {0, 9, 10, 20, 29, 30, 39}, new boolean[] {false, false, true, true, true, false, false});
        hours(0, 23, new int[] {0, 100, 239, 240}, new boolean[] {true, true, true, true});
        hours(23, 23, new int[] {0, 229, 230, 239, 240}, new boolean[] {false, false, true, true, false});
        hours(0, 0, new int[] {0, 9, 10, 239, 240}, new boolean[] {true, true, false, false, true});
    }

    /** "If FROM is more than TO, from FROM on and up to TO." */
    private static void overMidnight() {
        hours(22, 1, new int[] {0, 10, 19, 20, 219, 220, 239, 240, 259, 260},
                new boolean[] {true, true, true, false, false, true, true, true, true, false});
        hours(23, 0, new int[] {9, 10, 229, 230, 249, 250}, new boolean[] {true, false, false, true, true, false});
        hours(1, 0, new int[] {0, 9, 10, 239, 240}, new boolean[] {true, true, true, true, true});
    }

    private static void oneHour() {
        hours(5, 5, new int[] {49, 50, 59, 60}, new boolean[] {false, true, true, false});
        hours(5, 6, new int[] {49, 50, 60, 69, 70}, new boolean[] {false, true, true, true, false});
        hours(6, 5, new int[] {49, 50, 60, 69, 70}, new boolean[] {true, true, true, true, true});
    }

    /** "The first that fits": 4, then 0 if r is 1, then 3, 1, 2, 0. */
    private static void firstThatFits() {
        KeptHouse x = new KeptHouse(0L);
        x.door(0, 0);
        x.door(0, 10);
        x.card(0, 0, 5, 5, true);
        Check.due("not at the door before all", x.go(0, 1), 4);
        Check.due("blocked before the right", x.go(0, 0), 3);
        x.card(0, 0, 5, 5, false);
        Check.due("the right before the hour", x.go(0, 0), 1);
        x.card(0, 1, 5, 5, false);
        Check.due("the hour", x.go(0, 0), 2);
        x.card(0, 1, 0, 0, false);
        Check.due("all fits", x.go(0, 0), 0);
        x.card(1, 0, 5, 5, true);
        Told.program(x, "r=1;");
        Check.due("r is told in a minute alone", x.go(1, 0), 3);
        x.run(1);
        Check.due("released", x.go(1, 0), 0);
        x.card(2, 0, 5, 5, true);
        Check.due("but not where it is not", x.go(2, 1), 4);
        Told.program(x, "r=0;");
        x.card(3, 0, 5, 5, true);
        Check.due("no release", x.go(3, 0), 3);
    }

    /** "It is OUTSIDE, and neither cell of the door's edge is missing; or in a cell whose space has none of them." */
    private static void notAtTheDoor() {
        KeptHouse x = new KeptHouse(0L);
        x.edit(0, 0, 4, 6, 9, 1);
        x.merge(0);
        x.card(0, 0xFFFFF, 0, 23, false);
        x.door(0, 0);
        x.door(0, 8);
        x.door(0, 1);
        x.door(0, 7);
        x.door(0, 4);
        x.door(1, 1);
        Check.due("outside, within", x.go(0, 2), 4);
        Check.due("outside, upstairs", x.go(0, 5), 4);
        Check.due("in on the left", x.go(0, 0), 0);
        Check.due("cell", x.place(0), 0);
        Check.due("the border on the right", x.go(0, 1), 4);
        Check.due("a door on the right", x.go(0, 3), 4);
        Check.due("not upstairs", x.go(0, 5), 4);
        Check.due("from any cell of the space", x.go(0, 4), 0);
        Check.due("over the wall", x.place(0), 4);
        Check.due("now on the right", x.go(0, 3), 0);
        Check.due("not on the left", x.go(0, 2), 4);
        Check.due("out on the right", x.go(0, 1), 0);
        Check.due("outside", x.place(0), NONE);
    }

    /** "If both cells are of the space in which it is, in the one with the greater number." */
    private static void bothCellsOfOneSpace() {
        KeptHouse x = new KeptHouse(0L);
        x.card(0, 0xFFFFF, 0, 23, false);
        x.door(0, 0);
        x.door(0, 1);
        x.door(0, 62);
        x.go(0, 0);
        Check.due("left and right", x.go(0, 1), 0);
        Check.due("the greater", x.place(0), 1);
        Check.due("again", x.go(0, 1), 0);
        Check.due("the greater still", x.place(0), 1);
        Check.due("above and below", x.go(0, 2), 0);
        Check.due("the greater, too", x.place(0), 8);
    }

    private static void severalAtOneEdge() {
        KeptHouse x = new KeptHouse(0L);
        Check.due("one", x.door(0, 0), 0);
        Check.due("another", x.door(0, 0), 1);
        x.card(0, 2, 0, 23, false);
        Check.due("no right to the first", x.go(0, 0), 1);
        Check.due("to the second", x.go(0, 1), 0);
    }

    /** "A CARD is told, or told anew (it stays where it is)." */
    private static void toldAnew() {
        KeptHouse x = new KeptHouse(0L);
        x.door(0, 54);
        Check.due("0", x.card(0, 1, 0, 23, false), 0);
        x.go(0, 0);
        Check.due("in", x.place(0), 0);
        Check.due("told anew", x.card(0, 0, 1, 2, true), 0);
        Check.due("where it was", x.place(0), 0);
        Check.due("but blocked", x.go(0, 0), 3);
    }

    /** The most cards in one space. */
    private static void fortyCardsInside() {
        KeptHouse x = new KeptHouse(0L);
        x.door(0, 0);
        Check.due("none", x.inside(0), 0);
        for (int card = 0; card < 40; card++) {
            x.card(card, 1, 0, 23, false);
            Check.due("not yet", x.inside(0), card);
            x.go(card, 0);
        }
        Check.due("all", x.inside(0), 40);
        Check.due("none above", x.inside(1), 0);
        x.go(39, 0);
        Check.due("one less", x.inside(0), 39);
    }

    /** Spaces are as the plan is now: a wall divides those who are inside. */
    private static void wallsAfterwards() {
        KeptHouse x = new KeptHouse(0L);
        x.door(0, 0);
        x.door(0, 8);
        x.card(0, 3, 0, 23, false);
        x.card(1, 3, 0, 23, false);
        x.go(0, 0);
        x.go(1, 1);
        Check.due("both", x.inside(0), 2);
        Check.due("place of the second", x.place(1), 7);
        x.edit(0, 0, 4, 6, 9, 2);
        x.merge(0);
        Check.due("one on the left", x.inside(0), 1);
        Check.due("one on the right", x.inside(1), 1);
        Check.due("not at the other door", x.go(0, 1), 4);
    }

    /** "The latest 64 rows are kept": the 64th and the 65th. */
    private static void sixtyFourRows() {
        KeptHouse x = new KeptHouse(0L);
        x.door(0, 0);
        x.card(0, 1, 0, 23, false);
        x.card(1, 0, 0, 23, false);
        for (int i = 0; i < 66; i++) {
            if (i == 63) {
                Check.illegalArgument("63 of them", () -> x.log(63, 0));
            }
            if (i == 64) {
                Check.due("the 64th", x.log(63, 0), 0);
                Check.illegalArgument("no 65th", () -> x.log(64, 0));
            }
            x.go(i % 2, 0);
            x.run(1);
        }
        Check.due("the latest, its time", x.log(0, 0), 65);
        Check.due("its card", x.log(0, 1), 1);
        Check.due("its door", x.log(0, 2), 0);
        Check.due("its answer", x.log(0, 3), 1);
        Check.due("the 64th latest", x.log(63, 0), 2);
        Check.due("of card", x.log(63, 1), 0);
        Check.illegalArgument("the 65th is not kept", () -> x.log(64, 0));
    }

    private static void cardRow() {
        KeptHouse x = new KeptHouse(0L);
        x.card(39, 0xFFFFF, 23, 0, true);
        int[] due = {1, 23, 0, 1, 0xFF, 0xFF, 0x0F, 0, 0};
        Check.due("kind", x.disk(0, 1, 0), 14);
        Check.due("index", x.disk(0, 1, 1), 39);
        for (int i = 0; i < due.length; i++) {
            Check.due("byte " + i, x.disk(0, 1, 12 + i), due[i]);
        }
    }

    /** "A card is OUTSIDE (when the house begins anew)"; logs are as at first. */
    private static void anew() {
        KeptHouse x = new KeptHouse(0L);
        x.door(0, 0);
        x.card(0, 1, 0, 23, false);
        x.go(0, 0);
        x.reopen();
        Check.due("outside", x.place(0), NONE);
        Check.due("nobody inside", x.inside(0), 0);
        Check.illegalArgument("nothing is logged", () -> x.log(0, 0));
        Check.due("but its rights are kept", x.go(0, 0), 0);
    }

    /** "At the end of an hour each POINT that is told notes its value": each kind, each end of its index. */
    private static void pointValues() {
        KeptHouse x = new KeptHouse(Told.seed(9, 20, true));
        x.flat(0, 0, 9);
        x.people(9, 0, 20);
        x.point(0, 0, 9);
        x.point(1, 1, 9);
        x.point(2, 2, 9);
        x.point(3, 2, 10);
        x.point(4, 3, 0);
        x.point(5, 4, 0);
        x.point(6, 5, 0);
        x.point(7, 6, 0);
        x.run(9);
        Check.illegalArgument("not at 9", () -> x.trend(0, 0));
        x.run(1);
        Check.due("warmth", x.trend(0, 0), x.space(0, 6));
        Check.due("stale, all of it", x.trend(1, 0), Told.sum(x, 0, 1));
        Check.due("load of flat 9", x.trend(2, 0), x.circuit(9, 0));
        Check.due("load of the house", x.trend(3, 0), x.circuit(10, 0));
        Check.due("the tank", x.trend(4, 0), x.state(3));
        Check.due("stored", x.trend(5, 0), x.state(5));
        Check.due("charge", x.trend(6, 0), 1800);
        Check.due("gas", x.trend(7, 0), x.money(2));
        x.run(9);
        Check.illegalArgument("no second at 19", () -> x.trend(6, 1));
        x.run(1);
        Check.due("the second at 20", x.trend(6, 0), 2100);
        Check.due("the first then", x.trend(6, 1), 1800);
        KeptHouse y = new KeptHouse(0L);
        y.point(0, 0, 0);
        y.point(1, 1, 0);
        y.run(10);
        Check.due("without a heart", y.trend(0, 0), 0);
        Check.due("nor stale", y.trend(1, 0), 0);
    }

    /** "The latest 48 values of each are kept": the 48th and the 49th. */
    private static void fortyEightValues() {
        KeptHouse x = new KeptHouse(0L);
        x.point(0, 5, 0);
        Told.runTo(x, 470);
        Check.due("47", x.trend(0, 46), 1800);
        Check.illegalArgument("no 48th", () -> x.trend(0, 47));
        Told.runTo(x, 480);
        Check.due("48", x.trend(0, 47), 1800);
        Check.illegalArgument("no 49th", () -> x.trend(0, 48));
        Told.runTo(x, 490);
        Check.due("the first is gone", x.trend(0, 47), 2100);
        Check.illegalArgument("the 49th is not kept", () -> x.trend(0, 48));
        Check.due("the latest", x.trend(0, 0), 3000);
    }

    /** "Told anew (its values go)", though it is the same. */
    private static void pointToldAnew() {
        KeptHouse x = new KeptHouse(0L);
        x.point(0, 3, 0);
        x.point(1, 3, 0);
        x.run(20);
        Check.due("told anew", x.point(0, 3, 0), 0);
        Check.illegalArgument("its values go", () -> x.trend(0, 0));
        Check.due("those of others stay", x.trend(1, 1), 2000);
        x.run(10);
        Check.due("a value", x.trend(0, 0), 2000);
        Check.illegalArgument("one alone", () -> x.trend(0, 1));
    }

    /** "Since it was told and since the house began anew." */
    private static void pointsAnew() {
        KeptHouse x = new KeptHouse(0L);
        x.point(7, 5, 0);
        x.run(10);
        x.reopen();
        Check.illegalArgument("no values", () -> x.trend(7, 0));
        x.run(10);
        Check.due("it is still told", x.trend(7, 0), 1800);
    }

    private static void pointRow() {
        KeptHouse x = new KeptHouse(0L);
        x.point(7, 2, 10);
        Check.due("kind", x.disk(0, 1, 0), 15);
        Check.due("index", x.disk(0, 1, 1), 7);
        Check.due("1", x.disk(0, 1, 12), 1);
        Check.due("its kind", x.disk(0, 1, 13), 2);
        Check.due("its index", x.disk(0, 1, 14), 10);
        Check.due("nothing behind", x.disk(0, 1, 15), 0);
    }

    private static void cuts() {
        KeptHouse x = new KeptHouse(0L);
        x.crash(0);
        Check.due("door", x.door(0, 0), KeptHouse.CUT);
        x.reopen();
        x.crash(0);
        Check.due("card", x.card(0, 1, 0, 23, false), KeptHouse.CUT);
        x.reopen();
        Check.illegalArgument("no card", () -> x.place(0));
        x.crash(0);
        Check.due("point", x.point(0, 3, 0), KeptHouse.CUT);
        x.reopen();
        x.run(10);
        Check.illegalArgument("no point", () -> x.trend(0, 0));
        Check.due("no door", x.door(0, 0), 0);
    }
}
