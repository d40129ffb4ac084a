import java.util.ArrayList;
import java.util.List;

/** Promises 45 to 51: tickets, tours, workers, orders and parts; steps 1 and 8 of a minute. */
public final class CareTest {
    private static final int NONE = KeptHouse.NONE;

    public static void main(String[] args) {
        tickets();
        ticketNumbersAnew();
        tour();
        tourIsFree();
        bestOrder();
        sixAtMost();
        twoWorkers();
        orders();
        stockAtMost();
        partsFail();
        repair();
        stockForTours();
        noPlaceForATicket();
        cuts();
        wrongArguments();
        Check.end();
    }

    private static void ticketIs(KeptHouse x, int k, long... want) {
        for (int what = 0; what < 6; what++) {
            Check.due("ticket " + k + " what " + what, x.ticketOf(k, what), want[what]);
        }
    }

    private static void tickets() {
        KeptHouse x = new KeptHouse(0L);
        Check.due("none", x.tickets(), 0);
        Check.illegalArgument("no first", () -> x.ticketOf(0, 0));
        x.run(7);
        Check.due("number 0", x.ticket(4, 47), 0);
        Check.due("number 1", x.ticket(0, 1), 1);
        Check.due("two", x.tickets(), 2);
        ticketIs(x, 0, 0, 4, 47, 3, 7, NONE);
        ticketIs(x, 1, 1, 0, 1, 3, 7, NONE);
        Check.illegalArgument("no third", () -> x.ticketOf(2, 0));
        Check.due("kind", x.disk(0, 1, 0), 12);
        Check.due("place", x.disk(0, 2, 1), 1);
        long[] row = {1, 4, 47, 3, 7, 0, 0, 0, 0, 0, 0, 0};
        for (int i = 0; i < row.length; i++) {
            Check.due("byte " + i, x.disk(0, 1, 12 + i), row[i]);
        }
        Check.due("its number", x.disk(0, 2, 12 + 8), 1);
        for (int n = 2; n < 16; n++) {
            Check.due("number " + n, x.ticket(0, 0), n);
        }
        Check.due("full", x.ticket(0, 0), KeptHouse.FULL);
        Check.due("16", x.tickets(), 16);
        Check.due("rows", x.rows(2), 17);
    }

    /** The next number is one more than the greatest of those that are there. */
    private static void ticketNumbersAnew() {
        KeptHouse x = new KeptHouse(0L);
        for (int i = 0; i < 3; i++) {
            x.ticket(0, i);
        }
        x.reopen();
        ticketIs(x, 2, 2, 0, 2, 3, 0, NONE);
        Check.due("one more", x.ticket(0, 0), 3);
        x.tour(0);
        x.run(120);
        Check.due("all are done", x.tickets(), 0);
        Check.due("numbers go on", x.ticket(0, 0), 4);
        x.tour(0);
        x.run(20);
        x.reopen();
        Check.due("from 0 when none is there", x.ticket(0, 0), 0);
    }

    /** One ticket at storey 1, column 2, line 3: the way is 15, the visit 15 more. */
    private static void tour() {
        KeptHouse x = new KeptHouse(0L);
        Check.due("none to take", x.tour(1), 0);
        Check.due("still free", x.worker(1, 3), NONE);
        x.ticket(1, 26);
        x.run(5);
        Check.due("one", x.tour(1), 1);
        Check.due("who has it", x.ticketOf(0, 5), 1);
        Check.due("to be visited", x.worker(1, 0), 1);
        Check.due("next", x.worker(1, 1), 0);
        Check.due("over", x.worker(1, 2), 35);
        Check.due("back", x.worker(1, 3), 50);
        x.run(30);
        Check.due("still there at 35", x.tickets(), 1);
        x.run(1);
        Check.due("done in the minute of 35", x.tickets(), 0);
        Check.due("care", x.money(3), 500);
        Check.due("none to be visited", x.worker(1, 0), 0);
        Check.due("no next", x.worker(1, 1), NONE);
        Check.due("no visit", x.worker(1, 2), NONE);
        Check.due("on the way back", x.worker(1, 3), 50);
        Check.due("rows 9 and 12", x.rows(2), 4);
        Check.due("first", x.disk(0, 2, 0), 9);
        Check.due("time of that minute", x.disk(0, 2, 12), 35);
        Check.due("care", x.disk(0, 2, 12 + 24) + 256 * x.disk(0, 2, 12 + 25), 500);
        Check.due("second", x.disk(0, 3, 0), 12);
        Check.due("no ticket", x.disk(0, 3, 12), 0);
        x.ticket(0, 0);
        Check.illegalState("not free", () -> x.tour(1));
        x.run(14);
        Check.illegalState("not free at 50", () -> x.tour(1));
        x.run(1);
        Check.due("free", x.tour(1), 1);
        Check.due("no way at all", x.worker(1, 2), 51 + 15);
        Check.due("back at once", x.worker(1, 3), 51 + 15);
        x.run(16);
        Check.due("free in the same minute", x.worker(1, 3), NONE);
        Check.due("and done", x.tickets(), 0);
    }

    private static void tourIsFree() {
        KeptHouse x = new KeptHouse(0L);
        x.ticket(0, 5);
        x.tour(0);
        Check.illegalArgument("first its bounds", () -> x.tour(2));
        x.run(3);
        x.reopen();
        Check.due("tours are forgotten", x.worker(0, 3), NONE);
        Check.due("nobody has it", x.ticketOf(0, 5), NONE);
        Check.due("again", x.tour(0), 1);
    }

    private static int way(int[] a, int[] b) {
        return Math.abs(a[1] % 8 - b[1] % 8) + Math.abs(a[1] / 8 - b[1] / 8) + 10 * Math.abs(a[0] - b[0]);
    }

    /** All orders of some places, the lesser numbers first. */
    private static void permute(List<Integer> done, int n, List<List<Integer>> all) {
        if (done.size() == n) {
            all.add(new ArrayList<>(done));
            return;
        }
        for (int i = 0; i < n; i++) {
            if (!done.contains(i)) {
                done.add(i);
                permute(done, n, all);
                done.remove(done.size() - 1);
            }
        }
    }

    private static void bestOrder() {
        int[][][] sets = {
            {{0, 7}, {0, 40}, {0, 47}, {1, 9}, {4, 0}, {2, 20}},
            {{3, 3}, {3, 4}, {1, 44}, {1, 45}, {0, 1}, {0, 8}},
            {{0, 1}, {0, 2}, {0, 3}, {0, 4}, {0, 5}, {0, 6}},
            {{2, 9}, {2, 9}, {2, 9}, {0, 9}},
            {{4, 47}, {0, 46}, {3, 45}, {1, 44}, {2, 43}},
        };
        List<Integer> none = new ArrayList<>();
        for (int[][] set : sets) {
            KeptHouse x = new KeptHouse(0L);
            for (int[] spot : set) {
                x.ticket(spot[0], spot[1]);
            }
            Check.due("taken", x.tour(0), set.length);
            List<List<Integer>> all = new ArrayList<>();
            permute(none, set.length, all);
            int least = Integer.MAX_VALUE;
            List<Integer> best = none;
            for (List<Integer> order : all) {
                int way = length(set, order);
                if (way < least) {
                    least = way;
                    best = order;
                }
            }
            Check.due("back", x.worker(0, 3), least + 15 * set.length);
            int time = 0;
            int[] at = {0, 0};
            for (int i : best) {
                time += way(at, set[i]) + 15;
                at = set[i];
                Check.due("next", x.worker(0, 1), i);
                Check.due("its time", x.worker(0, 2), time);
                runTo(x, time + 1);
            }
        }
    }

    private static int length(int[][] set, List<Integer> order) {
        int[] home = {0, 0};
        int[] at = home;
        int way = 0;
        for (int i : order) {
            way += way(at, set[i]);
            at = set[i];
        }
        return way + way(at, home);
    }

    private static void runTo(KeptHouse x, int time) {
        while (x.state(10) < time) {
            x.run(Math.min(120, time - x.state(10)));
        }
    }

    private static void sixAtMost() {
        KeptHouse x = new KeptHouse(0L);
        for (int i = 0; i < 8; i++) {
            x.ticket(0, i);
        }
        Check.due("six", x.tour(0), 6);
        Check.due("the sixth by numbers", x.ticketOf(5, 5), 0);
        Check.due("the seventh is free", x.ticketOf(6, 5), NONE);
        Check.due("the other worker has the rest", x.tour(1), 2);
        Check.due("seventh", x.ticketOf(6, 5), 1);
    }

    /** Worker 0 comes before worker 1 in the same minute; a freed place is used again. */
    private static void twoWorkers() {
        KeptHouse x = new KeptHouse(0L);
        x.ticket(0, 1);
        x.tour(1);
        x.ticket(0, 1);
        x.tour(0);
        x.run(17);
        Check.due("both are done", x.tickets(), 0);
        Check.due("worker 0 first: place 1", x.disk(0, 4, 1), 1);
        Check.due("then place 0", x.disk(0, 6, 1), 0);
        x.ticket(2, 2);
        Check.due("the least place", x.disk(0, 7, 1), 0);
        Check.due("but a new number", x.ticketOf(0, 0), 2);
    }

    private static void orders() {
        KeptHouse x = new KeptHouse(0L);
        x.run(3);
        Check.due("due", x.order(2, 9), 483);
        x.run(7);
        for (int i = 1; i < 8; i++) {
            Check.due("due, too", x.order(i % 3, i), 490);
        }
        Check.due("full", x.order(0, 1), KeptHouse.FULL);
        Check.illegalArgument("first its bounds", () -> x.order(3, 1));
        runTo(x, 483);
        Check.due("not yet", x.part(2, 2), 0);
        int before = x.rows(2);
        x.run(1);
        Check.due("it came", x.part(2, 2), 9);
        Check.due("care", x.money(3), 27000);
        Check.due("two rows", x.rows(2), before + 2);
        Check.due("kind 9", x.disk(0, before, 0), 9);
        Check.due("kind 11", x.disk(0, before + 1, 0), 11);
        Check.due("part 2", x.disk(0, before + 1, 1), 2);
        Check.due("room for one", x.order(0, 1), 484 + 480);
        Check.due("for one alone", x.order(0, 1), KeptHouse.FULL);
        runTo(x, 491);
        // Of 1 .. 7: 3 and 6 for part 0, 1 and 4 and 7 for part 1, 2 and 5 for part 2.
        Check.due("part 0", x.part(0, 2), 9);
        Check.due("part 1", x.part(1, 2), 12);
        Check.due("part 2", x.part(2, 2), 16);
        Check.due("care in all", x.money(3), 27000 + 28 * 3000);
        Check.due("a group each", x.rows(2), before + 16);
        x.reopen();
        Check.due("stock is kept", x.part(1, 2), 12);
        x.order(0, 1);
        x.reopen();
        runTo(x, x.state(10) + 600);
        Check.due("orders are not", x.part(0, 2), 9);
    }

    private static void stockAtMost() {
        KeptHouse x = new KeptHouse(0L);
        new Image().key(11, 1, Image.numbers(4, 5000, 0, 95, 0)).feed(x);
        Check.due("put", x.put(), 0);
        Check.due("stock", x.part(1, 2), 95);
        x.order(1, 9);
        runTo(x, 481);
        Check.due("99 at most", x.part(1, 2), 99);
        Check.due("all are paid", x.money(3), 27000);
    }

    private static void partsFail() {
        KeptHouse x = new KeptHouse(0L);
        x.flat(0, 0, 0);
        x.life(0, 3);
        x.run(2);
        Check.due("wear", x.part(0, 1), 2);
        Check.due("not yet", x.part(0, 3), 0);
        int before = x.rows(2);
        x.run(1);
        Check.due("failed", x.part(0, 3), 1);
        ticketIs(x, 0, 0, 0, 0, 0, 2, NONE);
        Check.due("rows 11 and 12", x.rows(2), before + 2);
        Check.due("kind 11", x.disk(0, before, 0), 11);
        Check.due("failed", x.disk(0, before, 12 + 12), 1);
        Check.due("kind 12", x.disk(0, before + 1, 0), 12);
        Check.due("its part", x.disk(0, before + 1, 12 + 3), 0);
        x.run(1);
        Check.due("it gives nothing", x.state(7), 0);
        Check.due("no more wear", x.part(0, 1), 3);
        Check.due("no second ticket", x.tickets(), 1);
        x.mains(false);
        x.life(2, 1);
        x.run(3);
        ticketIs(x, 1, 1, 0, 2, 2, 6, NONE);
        x.life(1, 1);
        x.run(1);
        Check.due("the pump never ran", x.part(1, 3), 0);
        x.reopen();
        Check.due("failed is durable", x.part(0, 3), 1);
        Check.due("tickets, too", x.tickets(), 2);
    }

    private static void repair() {
        KeptHouse x = new KeptHouse(0L);
        x.flat(0, 0, 0);
        x.life(0, 1);
        x.run(1);
        Check.due("failed", x.part(0, 3), 1);
        Check.due("no stock, no tour", x.tour(0), 0);
        x.order(0, 2);
        runTo(x, 482);
        Check.due("stock", x.part(0, 2), 2);
        x.life(0, 100);
        Check.due("now", x.tour(0), 1);
        Check.due("at cell 0", x.worker(0, 2), 482 + 15);
        runTo(x, 497);
        int before = x.rows(2);
        Check.due("still failed", x.part(0, 3), 1);
        x.run(1);
        Check.due("mended", x.part(0, 3), 0);
        Check.due("stock", x.part(0, 2), 1);
        Check.due("wears again in that minute", x.part(0, 1), 1);
        Check.due("it gives", x.state(7) > 0, true);
        Check.due("rows 9, 11 and 12", x.rows(2), before + 3);
        Check.due("9", x.disk(0, before, 0), 9);
        Check.due("11", x.disk(0, before + 1, 0), 11);
        Check.due("no wear there", x.disk(0, before + 1, 12 + 4), 0);
        Check.due("12", x.disk(0, before + 2, 0), 12);
        Check.due("care", x.money(3), 6500);
    }

    /** Three tickets for a part, a stock of two: the third stays. */
    private static void stockForTours() {
        KeptHouse x = new KeptHouse(0L);
        Image image = new Image();
        image.key(11, 1, Image.numbers(4, 5000, 0, 2, 0));
        image.key(12, 0, Image.join(new int[] {1, 0, 9, 1}, Image.numbers(4, 0, 30)));
        image.key(12, 1, Image.join(new int[] {1, 0, 8, 1}, Image.numbers(4, 0, 20)));
        image.key(12, 4, Image.join(new int[] {1, 0, 7, 1}, Image.numbers(4, 0, 10)));
        image.key(12, 5, Image.join(new int[] {1, 0, 6, 3}, Image.numbers(4, 0, 40)));
        image.feed(x);
        Check.due("put", x.put(), 0);
        Check.due("by numbers", x.ticketOf(0, 0), 10);
        Check.due("the next number", x.ticket(4, 4), 41);
        Check.due("two of the part, and the others", x.tour(1), 4);
        Check.due("10 is taken", x.ticketOf(0, 5), 1);
        Check.due("20 is taken", x.ticketOf(1, 5), 1);
        Check.due("30 is not", x.ticketOf(2, 5), NONE);
        Check.due("none for the other worker", x.tour(0), 0);
    }

    private static void noPlaceForATicket() {
        KeptHouse x = new KeptHouse(0L);
        x.flat(0, 0, 0);
        for (int i = 0; i < 16; i++) {
            x.ticket(0, 0);
        }
        x.life(0, 1);
        int before = x.rows(2);
        x.run(1);
        Check.due("failed", x.part(0, 3), 1);
        Check.due("no ticket", x.tickets(), 16);
        Check.due("one row", x.rows(2), before + 1);
        Check.due("last", x.disk(0, before, 2), 1);
        x.tour(0);
        x.run(120);
        Check.due("none later either", x.tickets(), 10);
    }

    private static void cuts() {
        KeptHouse x = new KeptHouse(0L);
        x.crash(0);
        Check.due("ticket", x.ticket(0, 0), KeptHouse.CUT);
        x.reopen();
        Check.due("none", x.tickets(), 0);
        x.ticket(0, 0);
        x.tour(0);
        x.run(15);
        x.crash(1);
        Check.due("a visit is cut", x.run(1), KeptHouse.CUT);
        x.reopen();
        Check.due("the ticket is there", x.tickets(), 1);
        Check.due("nothing to pay", x.money(3), 0);
        x.order(0, 1);
        x.run(120);
        x.run(119);
        x.crash(16);
        x.run(120);
        x.run(120);
        Check.due("an order is cut in its second row", x.run(2), KeptHouse.CUT);
        x.reopen();
        Check.due("no stock", x.part(0, 2), 0);
        x.flat(0, 0, 0);
        x.life(0, 1);
        x.crash(1);
        Check.due("a part fails, and the power", x.run(1), KeptHouse.CUT);
        x.reopen();
        Check.due("it has not failed", x.part(0, 3), 0);
    }

    private static void wrongArguments() {
        KeptHouse x = new KeptHouse(0L);
        x.ticket(0, 0);
        Check.illegalArgument("ticket storey", () -> x.ticket(5, 0));
        Check.illegalArgument("ticket cell", () -> x.ticket(0, 48));
        Check.illegalArgument("ticketOf -1", () -> x.ticketOf(-1, 0));
        Check.illegalArgument("ticketOf 1", () -> x.ticketOf(1, 0));
        Check.illegalArgument("ticketOf what 6", () -> x.ticketOf(0, 6));
        Check.illegalArgument("ticketOf what -1", () -> x.ticketOf(0, -1));
        Check.illegalArgument("tour -1", () -> x.tour(-1));
        Check.illegalArgument("tour 2", () -> x.tour(2));
        Check.illegalArgument("worker 2", () -> x.worker(2, 0));
        Check.illegalArgument("worker -1", () -> x.worker(-1, 0));
        Check.illegalArgument("worker what 4", () -> x.worker(0, 4));
        Check.illegalArgument("worker what -1", () -> x.worker(0, -1));
        Check.illegalArgument("order part 3", () -> x.order(3, 1));
        Check.illegalArgument("order 0", () -> x.order(0, 0));
        Check.illegalArgument("order 10", () -> x.order(0, 10));
        Check.illegalArgument("part 3", () -> x.part(3, 0));
        Check.illegalArgument("part -1", () -> x.part(-1, 0));
        Check.illegalArgument("part what 4", () -> x.part(0, 4));
        Check.illegalArgument("part what -1", () -> x.part(0, -1));
        Check.due("free worker", x.worker(0, 0), 0);
        Check.due("free worker's next", x.worker(0, 1), NONE);
        Check.due("free worker's time", x.worker(0, 2), NONE);
    }
}
