/** Promises 37 to 42: doors, cards and the log. */
public final class AccessTest {
    private static final int ALL = (1 << 20) - 1;

    public static void main(String[] args) {
        doors();
        doorsAfterAnImage();
        cards();
        comingAndGoing();
        refusals();
        hours();
        release();
        ways();
        inside();
        logged();
        wrongArguments();
        Check.end();
    }

    private static void doors() {
        KeptHouse x = new KeptHouse(0L);
        Check.due("at the border of storey 0", x.door(0, 0), 0);
        Check.due("at the same edge", x.door(0, 0), 1);
        Check.due("within", x.door(4, 1), 2);
        Check.due("kind", x.disk(0, 3, 0), 13);
        Check.due("index", x.disk(0, 3, 1), 2);
        Check.due("there", x.disk(0, 3, 12), 1);
        Check.due("storey", x.disk(0, 3, 13), 4);
        Check.due("edge", x.disk(0, 3, 14), 1);
        Check.illegalArgument("at the border above", () -> x.door(1, 0));
        Check.illegalArgument("at the upper border", () -> x.door(4, 109));
        Check.illegalArgument("storey", () -> x.door(5, 1));
        Check.illegalArgument("storey -1", () -> x.door(-1, 1));
        Check.illegalArgument("edge 110", () -> x.door(0, 110));
        Check.illegalArgument("edge -1", () -> x.door(0, -1));
        for (int d = 3; d < 20; d++) {
            Check.due("door " + d, x.door(0, 102), d);
        }
        Check.due("21st", x.door(0, 1), KeptHouse.FULL);
        Check.illegalArgument("first its edge", () -> x.door(1, 0));
        Check.due("a row each", x.rows(2), 21);
        x.reopen();
        Check.due("kept", x.door(0, 1), KeptHouse.FULL);
        KeptHouse y = new KeptHouse(0L);
        y.crash(0);
        Check.due("cut", y.door(0, 1), KeptHouse.CUT);
        y.reopen();
        Check.due("not kept", y.door(0, 1), 0);
    }

    /** An image may have door 1 alone: then the least number that none has is 0. */
    private static void doorsAfterAnImage() {
        KeptHouse x = new KeptHouse(0L);
        Image image = new Image();
        image.key(13, 1, 1, 0, 5);
        image.feed(x);
        Check.due("put", x.put(), 0);
        Check.due("the least", x.door(0, 1), 0);
        Check.due("the next", x.door(0, 1), 2);
    }

    private static void cards() {
        KeptHouse x = new KeptHouse(0L);
        Check.illegalArgument("never told", () -> x.place(39));
        Check.due("told", x.card(39, ALL, 0, 23, true), 0);
        Check.due("kind", x.disk(0, 1, 0), 14);
        Check.due("index", x.disk(0, 1, 1), 39);
        Check.due("there", x.disk(0, 1, 12), 1);
        Check.due("from", x.disk(0, 1, 13), 0);
        Check.due("to", x.disk(0, 1, 14), 23);
        Check.due("blocked", x.disk(0, 1, 15), 1);
        Check.due("rights", x.disk(0, 1, 16), 255);
        Check.due("rights, too", x.disk(0, 1, 17), 255);
        Check.due("the highest", x.disk(0, 1, 18), 15);
        Check.due("outside", x.place(39), KeptHouse.NONE);
        x.door(0, 0);
        x.card(39, ALL, 0, 23, false);
        x.go(39, 0);
        Check.due("told anew it stays", x.card(39, 0, 0, 23, false), 0);
        Check.due("where it is", x.place(39), 0);
        x.reopen();
        Check.due("outside anew", x.place(39), KeptHouse.NONE);
        Check.due("no right", x.go(39, 0), 1);
        x.crash(0);
        Check.due("cut", x.card(0, 0, 0, 0, false), KeptHouse.CUT);
    }

    private static void comingAndGoing() {
        KeptHouse x = new KeptHouse(0L);
        x.edit(0, 0, 4, 6, 9, 1);
        x.merge(0);
        int left = x.door(0, 18);
        int right = x.door(0, 35);
        int below = x.door(0, 56);
        int above = x.door(0, 102);
        int middle = x.door(0, 22);
        x.card(0, ALL, 0, 23, false);
        Check.due("in by the left", x.go(0, left), 0);
        Check.due("line 2, column 0", x.place(0), 16);
        Check.due("not by the right", x.go(0, right), 4);
        Check.due("through the middle", x.go(0, middle), 0);
        Check.due("line 2, column 4", x.place(0), 20);
        Check.due("and back", x.go(0, middle), 0);
        Check.due("line 2, column 3", x.place(0), 19);
        Check.due("out below", x.go(0, below), 0);
        Check.due("outside", x.place(0), KeptHouse.NONE);
        Check.due("not through the middle", x.go(0, middle), 4);
        Check.due("in by the right", x.go(0, right), 0);
        Check.due("line 3, column 7", x.place(0), 31);
        Check.due("not by that above of the left", x.go(0, above), 4);
        Check.due("out", x.go(0, right), 0);
        Check.due("in from above", x.go(0, above), 0);
        Check.due("line 5, column 0", x.place(0), 40);
        Check.due("out again", x.go(0, above), 0);
    }

    private static void refusals() {
        KeptHouse x = new KeptHouse(0L);
        int d = x.door(0, 0);
        int e = x.door(0, 9);
        x.card(1, 1 << e, 5, 6, true);
        Check.due("blocked before all", x.go(1, d), 3);
        x.card(1, 1 << e, 5, 6, false);
        Check.due("no right before hours", x.go(1, d), 1);
        Check.due("not its hour", x.go(1, e), 2);
        x.card(1, 1 << e, 0, 0, false);
        Check.due("in", x.go(1, e), 0);
        x.card(1, 0, 5, 6, true);
        int within = x.door(3, 1);
        Check.due("not there before all", x.go(1, within), 4);
    }

    private static void hours() {
        for (int hour = 0; hour < 24; hour++) {
            KeptHouse x = new KeptHouse(0L);
            int d = x.door(0, 0);
            x.card(0, ALL, 7, 18, false);
            x.card(1, ALL, 18, 7, false);
            x.card(2, ALL, 7, 7, false);
            for (int i = 0; i < hour; i++) {
                x.run(10);
            }
            Check.due("day at " + hour, x.go(0, d), hour >= 7 && hour <= 18 ? 0 : 2);
            Check.due("night at " + hour, x.go(1, d), hour >= 18 || hour <= 7 ? 0 : 2);
            Check.due("one hour at " + hour, x.go(2, d), hour == 7 ? 0 : 2);
        }
    }

    private static void release() {
        KeptHouse x = new KeptHouse(0L);
        int d = x.door(0, 0);
        int within = x.door(2, 1);
        x.card(0, 0, 5, 6, true);
        Told.program(x, "r=1;");
        Check.due("not yet", x.go(0, d), 3);
        x.run(1);
        Check.due("not at that door", x.go(0, within), 4);
        Check.due("released", x.go(0, d), 0);
        Check.due("in", x.place(0), 0);
    }

    /** Both cells of one space: it is in the greater one then. Spaces are those of the plan now. */
    private static void ways() {
        KeptHouse x = new KeptHouse(0L);
        int in = x.door(0, 0);
        int free = x.door(0, 4);
        x.card(0, ALL, 0, 23, false);
        x.go(0, in);
        Check.due("one space", x.go(0, free), 0);
        Check.due("the greater", x.place(0), 4);
        Check.due("again", x.go(0, free), 0);
        Check.due("it stays", x.place(0), 4);
        x.edit(0, 0, 4, 6, 9, 2);
        x.merge(0);
        Check.due("two spaces", x.go(0, free), 0);
        Check.due("the other", x.place(0), 3);
        Check.due("it is not at a door of another storey", x.go(0, x.door(1, 4)), 4);
    }

    private static void inside() {
        KeptHouse x = new KeptHouse(0L);
        int d = x.door(0, 0);
        for (int card = 0; card < 40; card++) {
            x.card(card, ALL, 0, 23, false);
            x.go(card, d);
        }
        Check.due("all", x.inside(0), 40);
        Check.due("none above", x.inside(1), 0);
        x.go(7, d);
        Check.due("one went", x.inside(0), 39);
        Told.room(x, 0, 0);
        Check.due("the room has them", x.inside(0), 39);
        Check.due("not the rest", x.inside(1), 0);
        x.reopen();
        Check.due("none anew", x.inside(0), 0);
    }

    private static void logged() {
        KeptHouse x = new KeptHouse(0L);
        Check.illegalArgument("nothing yet", () -> x.log(0, 0));
        int d = x.door(0, 0);
        int e = x.door(0, 1);
        x.card(3, 1, 0, 23, false);
        x.run(5);
        x.go(3, e);
        x.go(3, d);
        x.go(3, e);
        long[] want = {5, 3, e, 1};
        long[] before = {5, 3, d, 0};
        long[] first = {5, 3, e, 4};
        for (int what = 0; what < 4; what++) {
            Check.due("latest " + what, x.log(0, what), want[what]);
            Check.due("second " + what, x.log(1, what), before[what]);
            Check.due("third " + what, x.log(2, what), first[what]);
        }
        Check.illegalArgument("no fourth", () -> x.log(3, 0));
        Check.illegalArgument("what 4", () -> x.log(0, 4));
        Check.illegalArgument("what -1", () -> x.log(0, -1));
        Check.illegalArgument("k -1", () -> x.log(-1, 0));
        for (int i = 0; i < 70; i++) {
            x.run(1);
            x.go(3, d);
        }
        for (int k = 0; k < 64; k++) {
            Check.due("time of the latest but " + k, x.log(k, 0), 75 - k);
        }
        Check.illegalArgument("65th", () -> x.log(64, 0));
        x.reopen();
        Check.illegalArgument("none anew", () -> x.log(0, 0));
    }

    private static void wrongArguments() {
        KeptHouse x = new KeptHouse(0L);
        x.door(0, 0);
        x.card(0, 0, 0, 0, false);
        Check.illegalArgument("card 40", () -> x.card(40, 0, 0, 0, false));
        Check.illegalArgument("card -1", () -> x.card(-1, 0, 0, 0, false));
        Check.illegalArgument("rights of door 20", () -> x.card(0, 1 << 20, 0, 0, false));
        Check.illegalArgument("rights -1", () -> x.card(0, -1, 0, 0, false));
        Check.illegalArgument("from 24", () -> x.card(0, 0, 24, 0, false));
        Check.illegalArgument("from -1", () -> x.card(0, 0, -1, 0, false));
        Check.illegalArgument("to 24", () -> x.card(0, 0, 0, 24, false));
        Check.illegalArgument("to -1", () -> x.card(0, 0, 0, -1, false));
        Check.illegalArgument("go card never told", () -> x.go(1, 0));
        Check.illegalArgument("go card 40", () -> x.go(40, 0));
        Check.illegalArgument("go card -1", () -> x.go(-1, 0));
        Check.illegalArgument("go door that is none", () -> x.go(0, 1));
        Check.illegalArgument("go door 20", () -> x.go(0, 20));
        Check.illegalArgument("go door -1", () -> x.go(0, -1));
        Check.illegalArgument("nothing was logged", () -> x.log(0, 0));
        Check.illegalArgument("place 40", () -> x.place(40));
        Check.illegalArgument("place -1", () -> x.place(-1));
        Check.illegalArgument("inside 5", () -> x.inside(5));
        Check.illegalArgument("inside -1", () -> x.inside(-1));
    }
}
