/** Boundary cases of tickets, workers, orders and parts (promises 45 to 51; steps 1 and 8 of a minute). */
public final class CareBoundsTest {
    private static final int NONE = KeptHouse.NONE;

    public static void main(String[] args) {
        leastFreePlace();
        greatestNumber();
        numbersAnew();
        ticketsByNumbers();
        ticketRow();
        sixAtMost();
        stockForTickets();
        stockBetweenWorkers();
        stockInOneTour();
        noWay();
        longestWay();
        wayByEach();
        minuteOfAVisit();
        firstOfSeveralOrders();
        bothWorkersInOneMinute();
        freeAgain();
        tellingOfAWorker();
        careOfTickets();
        partIsMended();
        ordersAreDue();
        stockAtMost();
        ordersOneByOne();
        wearAndLife();
        lifeMadeShorter();
        idlePartsDoNotWear();
        fifteenTickets();
        sixteenTickets();
        partByPart();
        cutVisit();
        cutOrder();
        cutFailure();
        ordersBeforeVisits();
        wearAnew();
        Check.end();
    }

    private static int[] ticket(int storey, int cell, int part, long time, long number) {
        return Image.join(new int[] {1, storey, cell, part}, Image.numbers(4, time, number));
    }

    private static int[] part(int life, int wear, int stock, int failed) {
        return Image.join(Image.numbers(4, life, wear, stock), new int[] {failed});
    }

    private static KeptHouse of(Image image) {
        KeptHouse x = new KeptHouse(0L);
        image.feed(x);
        Check.due("put", x.put(), 0);
        return x;
    }

    /** "A new one has the least place that is free": behind the first visit that is the ticket's own. */
    private static void leastFreePlace() {
        KeptHouse x = of(new Image().key(12, 1, ticket(0, 0, 3, 0, 5)).key(12, 3, ticket(0, 0, 3, 0, 6)));
        int[] places = {0, 2, 4, 5};
        for (int i = 0; i < places.length; i++) {
            Check.due("number", x.ticket(1, 1), 7 + i);
            Check.due("kind", x.disk(1, x.rows(2) - 1, 0), 12);
            Check.due("place", x.disk(1, x.rows(2) - 1, 1), places[i]);
        }
        KeptHouse y = new KeptHouse(0L);
        for (int i = 0; i < 16; i++) {
            y.ticket(0, 0);
            Check.due("place of " + i, y.disk(0, 1 + i, 1), i);
        }
        y.tour(0);
        Told.runTo(y, 31);
        Check.due("two are done", y.tickets(), 14);
        y.ticket(0, 0);
        Check.due("place 0 is free", y.disk(0, y.rows(2) - 1, 1), 0);
        y.ticket(0, 0);
        Check.due("place 1 is free", y.disk(0, y.rows(2) - 1, 1), 1);
        Check.due("no other", y.ticket(0, 0), KeptHouse.FULL);
    }

    /** The greatest number that an image may tell; "the next one is one more than the greatest". */
    private static void greatestNumber() {
        KeptHouse x = of(new Image().key(12, 0, ticket(4, 47, 3, 2000000, 1000000000)).key(12, 15, ticket(0, 0, 0, 0, 0)));
        Check.due("two", x.tickets(), 2);
        Check.due("the least", x.ticketOf(0, 0), 0);
        Check.due("the greatest", x.ticketOf(1, 0), 1000000000);
        Check.due("its time", x.ticketOf(1, 4), 2000000);
        Check.due("the next", x.ticket(0, 0), 1000000001);
        Check.due("and the next", x.ticket(0, 0), 1000000002);
        x.reopen();
        Check.due("one more than what is there", x.ticket(0, 0), 1000000003);
    }

    /** "0, 1, .. as they are given since the house began anew." */
    private static void numbersAnew() {
        KeptHouse x = new KeptHouse(0L);
        Check.due("first", x.ticket(0, 0), 0);
        Check.due("second", x.ticket(0, 0), 1);
        x.tour(0);
        Told.runTo(x, 16);
        Check.due("one is done", x.tickets(), 1);
        x.reopen();
        Check.due("one more than 1", x.ticket(0, 0), 2);
        x.tour(1);
        Told.runTo(x, 60);
        Check.due("none is there", x.tickets(), 0);
        Check.due("numbers go on", x.ticket(0, 0), 3);
        x.tour(0);
        Told.runTo(x, 120);
        x.reopen();
        Check.due("from 0 when none was there", x.ticket(0, 0), 0);
    }

    /** ticketOf(): "the k-th TICKET by numbers", not by places. */
    private static void ticketsByNumbers() {
        KeptHouse x = of(new Image().key(12, 0, ticket(0, 7, 3, 1, 30)).key(12, 8, ticket(1, 6, 2, 2, 10))
                .key(12, 15, ticket(2, 5, 0, 3, 20)));
        int[][] due = {{10, 1, 6, 2, 2, NONE}, {20, 2, 5, 0, 3, NONE}, {30, 0, 7, 3, 1, NONE}};
        for (int k = 0; k < 3; k++) {
            for (int what = 0; what < 6; what++) {
                Check.due("ticket " + k + ", " + what, x.ticketOf(k, what), due[k][what]);
            }
        }
        Check.illegalArgument("no fourth", () -> x.ticketOf(3, 0));
    }

    private static void ticketRow() {
        KeptHouse x = new KeptHouse(0L);
        x.run(120);
        x.run(119);
        x.ticket(4, 47);
        x.ticket(4, 47);
        int[] due = {1, 4, 47, 3, 239, 0, 0, 0, 1, 0, 0, 0, 0};
        Check.due("place 1", x.disk(0, 2, 1), 1);
        for (int i = 0; i < due.length; i++) {
            Check.due("byte " + i, x.disk(0, 2, 12 + i), due[i]);
        }
    }

    /** "By numbers, six at most": five, six, seven, twelve and thirteen of them. */
    private static void sixAtMost() {
        for (int n : new int[] {1, 5, 6, 7, 12, 13}) {
            KeptHouse x = new KeptHouse(0L);
            for (int i = 0; i < n; i++) {
                x.ticket(0, 0);
            }
            Check.due("first tour of " + n, x.tour(0), Math.min(6, n));
            Check.due("second tour of " + n, x.tour(1), Math.min(6, Math.max(0, n - 6)));
            for (int k = 0; k < n; k++) {
                Check.due("who has " + k, x.ticketOf(k, 5), k < 6 ? 0 : k < 12 ? 1 : NONE);
            }
        }
    }

    private static Image threeOfPart(int stock) {
        return new Image().key(11, 1, part(5000, 0, stock, 0)).key(12, 0, ticket(0, 0, 1, 0, 1))
                .key(12, 1, ticket(0, 0, 1, 0, 2)).key(12, 2, ticket(0, 0, 1, 0, 3));
    }

    /** "Just if the STOCK of that is more than the tickets for that part that workers have." */
    private static void stockForTickets() {
        for (int stock = 0; stock < 5; stock++) {
            KeptHouse x = of(threeOfPart(stock));
            Check.due("stock of " + stock, x.tour(0), Math.min(3, stock));
            for (int k = 0; k < 3; k++) {
                Check.due("who has " + k, x.ticketOf(k, 5), k < stock ? 0 : NONE);
            }
        }
    }

    /** Tickets that the other worker has count, those of another part do not. */
    private static void stockBetweenWorkers() {
        KeptHouse x = of(new Image().key(11, 1, part(5000, 0, 1, 0)).key(11, 2, part(5000, 0, 1, 0))
                .key(12, 0, ticket(0, 0, 1, 0, 1)).key(12, 1, ticket(0, 0, 1, 0, 2))
                .key(12, 2, ticket(0, 0, 2, 0, 3)).key(12, 3, ticket(0, 0, 0, 0, 4)));
        Check.due("one of part 1, one of part 2", x.tour(1), 2);
        Check.due("the other has none", x.tour(0), 0);
        x.ticket(0, 0);
        Check.due("but one of no part", x.tour(0), 1);
        Told.runTo(x, 16);
        Check.due("part 1 was used", x.part(1, 2), 0);
        Check.due("no stock, no tour", x.tour(0), 0);
    }

    /** "Those taken before it in this tour, too"; what has no stock does not use up the six. */
    private static void stockInOneTour() {
        Image image = new Image().key(11, 0, part(5000, 0, 1, 0));
        for (int i = 0; i < 8; i++) {
            image.key(12, i, ticket(0, i, i < 3 ? 0 : 3, 0, i));
        }
        KeptHouse x = of(image);
        Check.due("six", x.tour(0), 6);
        int[] due = {0, NONE, NONE, 0, 0, 0, 0, 0};
        for (int k = 0; k < 8; k++) {
            Check.due("who has " + k, x.ticketOf(k, 5), due[k]);
        }
    }

    /** At storey 0, cell 0: no way, 15 minutes, and back at once. */
    private static void noWay() {
        KeptHouse x = new KeptHouse(0L);
        x.ticket(0, 0);
        x.tour(0);
        Check.due("over", x.worker(0, 2), 15);
        Check.due("back", x.worker(0, 3), 15);
        x.run(15);
        Check.due("still there", x.tickets(), 1);
        Check.illegalState("not free", () -> x.tour(0));
        x.run(1);
        Check.due("done", x.tickets(), 0);
        Check.due("free", x.worker(0, 3), NONE);
        Check.due("for a tour", x.tour(0), 0);
    }

    /** 7 columns, 5 lines and 4 storeys: 52 minutes. */
    private static void longestWay() {
        KeptHouse x = new KeptHouse(0L);
        x.ticket(4, 47);
        x.tour(1);
        Check.due("over", x.worker(1, 2), 67);
        Check.due("back", x.worker(1, 3), 119);
        Told.runTo(x, 68);
        Check.due("done", x.tickets(), 0);
        Check.due("on the way back", x.worker(1, 3), 119);
        Told.runTo(x, 119);
        Check.illegalState("not before its minute", () -> x.tour(1));
        x.run(1);
        Check.due("free", x.tour(1), 0);
    }

    /** "The difference of their columns, of their lines, and 10 times that of their storeys." */
    private static void wayByEach() {
        int[][] due = {{0, 1, 1}, {0, 7, 7}, {0, 8, 1}, {0, 40, 5}, {1, 0, 10}, {4, 0, 40}, {1, 9, 12}};
        for (int[] row : due) {
            KeptHouse x = new KeptHouse(0L);
            x.ticket(row[0], row[1]);
            x.tour(0);
            Check.due("over", x.worker(0, 2), row[2] + 15);
            Check.due("back", x.worker(0, 3), 2 * row[2] + 15);
        }
        // From cell 7 to cell 40: columns and lines go both ways.
        KeptHouse y = new KeptHouse(0L);
        y.ticket(0, 7);
        y.ticket(0, 40);
        y.tour(0);
        Check.due("first", y.worker(0, 1), 0);
        Check.due("over", y.worker(0, 2), 22);
        Check.due("back", y.worker(0, 3), 7 + 15 + 12 + 15 + 5);
    }

    /** The visit is over in the minute that begins at its time. */
    private static void minuteOfAVisit() {
        KeptHouse x = new KeptHouse(0L);
        x.ticket(0, 3);
        x.tour(0);
        x.run(18);
        Check.due("at 18 it is there", x.tickets(), 1);
        Check.due("no cost", x.money(3), 0);
        x.run(1);
        Check.due("at 19 it is done", x.tickets(), 0);
        Check.due("cost", x.money(3), 500);
        x.run(2);
        Check.due("at 21 on the way", x.worker(0, 3), 21);
        x.run(1);
        Check.due("at 22 free", x.worker(0, 3), NONE);
    }

    /** In a line all that is passed on the way out or back costs no way more.
     * "Of several orders the one that has the lesser number at the first place where they differ." */
    private static void firstOfSeveralOrders() {
        KeptHouse x = new KeptHouse(0L);
        for (int cell : new int[] {7, 3, 5}) {
            x.ticket(0, cell);
        }
        x.tour(0);
        // By numbers it would be 18 (7, then 3, then 5). Of those with 14 there are 0 2 1, 1 0 2, 1 2 0, 2 0 1.
        int[] order = {0, 2, 1};
        int[] over = {22, 39, 56};
        for (int i = 0; i < 3; i++) {
            Check.due("next", x.worker(0, 1), order[i]);
            Check.due("over", x.worker(0, 2), over[i]);
            Told.runTo(x, over[i] + 1);
        }
        KeptHouse y = new KeptHouse(0L);
        for (int i = 0; i < 6; i++) {
            y.ticket(2, 20);
        }
        y.tour(0);
        for (int i = 0; i < 6; i++) {
            Check.due("all at one cell: by numbers", y.worker(0, 1), i);
            Check.due("to be visited", y.worker(0, 0), 6 - i);
            Told.runTo(y, y.worker(0, 2) + 1);
        }
    }

    /** "Then WORKER 0, then 1": what worker 0 does is written first. */
    private static void bothWorkersInOneMinute() {
        KeptHouse x = new KeptHouse(0L);
        x.ticket(0, 2);
        x.tour(1);
        x.ticket(0, 2);
        x.tour(0);
        x.run(18);
        Check.due("both", x.tickets(), 0);
        Check.due("cost", x.money(3), 1000);
        Check.due("four rows", x.rows(2), 7);
        Check.due("worker 0: place 1", x.disk(0, 4, 1), 1);
        Check.due("500 then", x.disk(0, 3, 36) + 256 * x.disk(0, 3, 37), 500);
        Check.due("worker 1: place 0", x.disk(0, 6, 1), 0);
        Check.due("1000 then", x.disk(0, 5, 36) + 256 * x.disk(0, 5, 37), 1000);
    }

    private static void freeAgain() {
        KeptHouse x = new KeptHouse(0L);
        x.ticket(0, 1);
        x.tour(0);
        x.ticket(0, 1);
        Told.runTo(x, 17);
        Check.due("visited", x.tickets(), 1);
        Check.illegalState("on its way back", () -> x.tour(0));
        x.run(1);
        Check.due("back", x.tour(0), 1);
        Check.due("its times begin now", x.worker(0, 2), 18 + 16);
    }

    /** worker(): "NONE for 1 to 3 when there is none, or the worker is free". */
    private static void tellingOfAWorker() {
        KeptHouse x = new KeptHouse(0L);
        int[][] due = {{0, NONE, NONE, NONE}, {1, 0, 17, 19}, {0, NONE, NONE, 19}, {0, NONE, NONE, NONE}};
        int[] times = {0, 0, 18, 20};
        for (int i = 0; i < 4; i++) {
            Told.runTo(x, times[i]);
            for (int what = 0; what < 4; what++) {
                Check.due("at " + times[i] + ", " + what, x.worker(0, what), due[i][what]);
                Check.due("the other", x.worker(1, what), due[0][what]);
            }
            if (i == 0) {
                x.ticket(0, 2);
                x.tour(0);
            }
        }
    }

    /** "500 cents (for each ticket, also of no part)": rows 9, 11 (of one of a part) and 12. */
    private static void careOfTickets() {
        KeptHouse x = of(threeOfPart(1));
        x.ticket(0, 0);
        int before = x.rows(2);
        Check.due("one of the part and one of none", x.tour(0), 2);
        Told.runTo(x, 16);
        Check.due("500", x.money(3), 500);
        Check.due("three rows", x.rows(2), before + 3);
        Check.due("9", x.disk(1, before, 0), 9);
        Check.due("11", x.disk(1, before + 1, 0), 11);
        Check.due("12", x.disk(1, before + 2, 0), 12);
        for (int i = 12; i < 40; i++) {
            Check.due("no ticket, all bytes 0", x.disk(1, before + 2, i), 0);
        }
        Told.runTo(x, 31);
        Check.due("1000", x.money(3), 1000);
        Check.due("two rows more", x.rows(2), before + 5);
    }

    /** "STOCK is one less, the part's WEAR is 0 and it has not FAILED." */
    private static void partIsMended() {
        KeptHouse x = of(new Image().key(11, 2, part(100, 100, 1, 1)).key(12, 0, ticket(0, 0, 2, 0, 0)));
        x.tour(0);
        Told.runTo(x, 15);
        int[] before = {100, 100, 1, 1};
        int[] behind = {100, 0, 0, 0};
        for (int what = 0; what < 4; what++) {
            Check.due("before, " + what, x.part(2, what), before[what]);
        }
        x.run(1);
        for (int what = 0; what < 4; what++) {
            Check.due("behind, " + what, x.part(2, what), behind[what]);
        }
        x.reopen();
        for (int what = 0; what < 4; what++) {
            Check.due("kept, " + what, x.part(2, what), behind[what]);
        }
    }

    /** "Each is due 480 minutes after it was given": not at 479, but in the minute of 480. */
    private static void ordersAreDue() {
        KeptHouse x = new KeptHouse(0L);
        x.run(7);
        Check.due("due", x.order(0, 1), 487);
        Told.runTo(x, 487);
        Check.due("not yet", x.part(0, 2), 0);
        Check.due("no cost", x.money(3), 0);
        x.run(1);
        Check.due("it came", x.part(0, 2), 1);
        Check.due("3000", x.money(3), 3000);
        x.run(120);
        Check.due("once", x.part(0, 2), 1);
    }

    /** "STOCK grows by so many, 99 at most, and CARE by 3000 cents for each of them." */
    private static void stockAtMost() {
        int[][] due = {{0, 9, 9}, {89, 9, 98}, {90, 9, 99}, {91, 9, 99}, {98, 1, 99}, {99, 1, 99}, {99, 9, 99}};
        for (int[] row : due) {
            KeptHouse x = of(new Image().key(11, 0, part(5000, 0, row[0], 0)));
            x.order(0, row[1]);
            Told.runTo(x, 481);
            Check.due(row[0] + " and " + row[1], x.part(0, 2), row[2]);
            Check.due("paid", x.money(3), 3000 * row[1]);
        }
    }

    /** "Order by order as they were given: each a group with rows 9 and 11." */
    private static void ordersOneByOne() {
        KeptHouse x = new KeptHouse(0L);
        int[] parts = {2, 0, 2, 1, 0, 1, 2, 0};
        for (int part : parts) {
            x.order(part, 1);
        }
        Told.runTo(x, 480);
        int row = x.rows(2);
        x.run(1);
        Check.due("sixteen rows", x.rows(2), row + 16);
        for (int i = 0; i < 8; i++) {
            Check.due("9", x.disk(0, row + 2 * i, 0), 9);
            Check.due("not last", x.disk(0, row + 2 * i, 2), 0);
            int care = 3000 * (i + 1);
            Check.due("care so far", x.disk(0, row + 2 * i, 36) + 256 * x.disk(0, row + 2 * i, 37), care);
            Check.due("11", x.disk(0, row + 2 * i + 1, 0), 11);
            Check.due("its part", x.disk(0, row + 2 * i + 1, 1), parts[i]);
            Check.due("last", x.disk(0, row + 2 * i + 1, 2), 1);
        }
    }

    /** "Whose wear is its LIFE or more FAILS": one less, and just that. */
    private static void wearAndLife() {
        KeptHouse x = new KeptHouse(0L);
        x.flat(0, 0, 0);
        x.price(0, 1);
        x.life(0, 5);
        x.run(4);
        Check.due("4 of 5", x.part(0, 1), 4);
        Check.due("has not failed", x.part(0, 3), 0);
        Check.due("no ticket", x.tickets(), 0);
        x.run(1);
        Check.due("5 of 5", x.part(0, 1), 5);
        Check.due("failed", x.part(0, 3), 1);
        Check.due("a ticket", x.tickets(), 1);
        x.run(10);
        Check.due("no more wear", x.part(0, 1), 5);
        Check.due("no more tickets", x.tickets(), 1);
        KeptHouse y = of(new Image().key(11, 0, part(100000, 99999, 0, 0)));
        y.flat(0, 0, 0);
        y.run(1);
        Check.due("the longest life", y.part(0, 3), 1);
    }

    /** A LIFE that is told below the wear: it fails in the next minute, used or not. */
    private static void lifeMadeShorter() {
        KeptHouse x = of(new Image().key(11, 1, part(100, 50, 0, 0)));
        x.run(1);
        Check.due("has not failed", x.part(1, 3), 0);
        x.life(1, 51);
        x.run(1);
        Check.due("50 of 51", x.part(1, 3), 0);
        x.life(1, 50);
        Check.due("not before a minute", x.part(1, 3), 0);
        x.run(1);
        Check.due("50 of 50", x.part(1, 3), 1);
        Check.due("its wear", x.part(1, 1), 50);
        x.life(1, 100);
        x.run(1);
        Check.due("a longer life does not mend it", x.part(1, 3), 1);
    }

    private static void idlePartsDoNotWear() {
        KeptHouse x = new KeptHouse(0L);
        x.run(20);
        for (int part = 0; part < 3; part++) {
            Check.due("wear of " + part, x.part(part, 1), 0);
        }
        x.mains(false);
        x.run(2);
        Check.due("the engine waits", x.part(2, 1), 0);
        x.run(3);
        Check.due("the engine gave", x.part(2, 1), 3);
    }

    private static KeptHouse nearFailure(int tickets) {
        KeptHouse x = of(new Image().key(11, 1, part(1, 1, 0, 0)));
        for (int i = 0; i < tickets; i++) {
            x.ticket(1, 1);
        }
        return x;
    }

    /** "If fewer than 16 tickets are there, a TICKET is given for it, at storey 0, cell part": 15. */
    private static void fifteenTickets() {
        KeptHouse x = nearFailure(15);
        x.run(1);
        Check.due("the sixteenth", x.tickets(), 16);
        int[] due = {15, 0, 1, 1, 0, NONE};
        for (int what = 0; what < 6; what++) {
            Check.due("ticket, " + what, x.ticketOf(15, what), due[what]);
        }
        int row = x.rows(2) - 2;
        Check.due("row 11", x.disk(1, row, 0), 11);
        Check.due("not last", x.disk(1, row, 2), 0);
        Check.due("row 12", x.disk(1, row + 1, 0), 12);
        Check.due("last", x.disk(1, row + 1, 2), 1);
    }

    /** 16: it fails all the same, with its row 11 alone. */
    private static void sixteenTickets() {
        KeptHouse x = nearFailure(16);
        int rows = x.rows(2);
        x.run(1);
        Check.due("failed", x.part(1, 3), 1);
        Check.due("no ticket", x.tickets(), 16);
        Check.due("one row", x.rows(2), rows + 1);
        Check.due("row 11", x.disk(1, rows, 0), 11);
        Check.due("last", x.disk(1, rows, 2), 1);
        x.reopen();
        Check.due("failed is kept", x.part(1, 3), 1);
    }

    /** "Part by part": each a ticket and a group of its own; only as many tickets as there is room for. */
    private static void partByPart() {
        Image image = new Image();
        for (int part = 0; part < 3; part++) {
            image.key(11, part, part(1, 1, 0, 0));
        }
        KeptHouse x = of(image);
        for (int i = 0; i < 14; i++) {
            x.ticket(0, 40);
        }
        int rows = x.rows(2);
        x.run(1);
        Check.due("sixteen", x.tickets(), 16);
        Check.due("of part 0", x.ticketOf(14, 3), 0);
        Check.due("at cell 0", x.ticketOf(14, 2), 0);
        Check.due("of part 1", x.ticketOf(15, 3), 1);
        Check.due("at cell 1", x.ticketOf(15, 2), 1);
        Check.due("2 and 2 and 1 rows", x.rows(2), rows + 5);
        Check.due("part 2 failed, too", x.part(2, 3), 1);
        Check.due("three groups", x.disk(1, rows + 1, 2) + x.disk(1, rows + 3, 2) + x.disk(1, rows + 4, 2), 3);
        Check.due("and not more", x.disk(1, rows, 2) + x.disk(1, rows + 2, 2), 0);
    }

    /** A visit's group of three rows, cut behind none, one and two of them. */
    private static void cutVisit() {
        for (int n = 0; n <= 3; n++) {
            KeptHouse x = of(threeOfPart(1));
            x.tour(0);
            x.run(15);
            x.crash(n);
            Check.due("with " + n + " rows", x.run(1), n < 3 ? KeptHouse.CUT : 16);
            x.reopen();
            Check.due("tickets with " + n, x.tickets(), n < 3 ? 3 : 2);
            Check.due("stock with " + n, x.part(1, 2), n < 3 ? 1 : 0);
            Check.due("care with " + n, x.money(3), n < 3 ? 0 : 500);
        }
    }

    /** Two orders of one minute are two groups: the first may be whole when the second is cut. */
    private static void cutOrder() {
        int[] stock0 = {0, 0, 3, 3, 3};
        int[] stock1 = {0, 0, 0, 0, 4};
        for (int n = 0; n <= 4; n++) {
            KeptHouse x = new KeptHouse(0L);
            x.order(0, 3);
            x.order(1, 4);
            Told.runTo(x, 480);
            x.crash(n);
            Check.due("with " + n + " rows", x.run(1), n < 4 ? KeptHouse.CUT : 481);
            x.reopen();
            Check.due("stock of part 0 with " + n, x.part(0, 2), stock0[n]);
            Check.due("stock of part 1 with " + n, x.part(1, 2), stock1[n]);
            Check.due("care with " + n, x.money(3), 3000 * (stock0[n] + stock1[n]));
        }
    }

    private static void cutFailure() {
        for (int n = 0; n <= 2; n++) {
            KeptHouse x = nearFailure(0);
            x.crash(n);
            Check.due("with " + n + " rows", x.run(1), n < 2 ? KeptHouse.CUT : 1);
            x.reopen();
            Check.due("failed with " + n, x.part(1, 3), n < 2 ? 0 : 1);
            Check.due("tickets with " + n, x.tickets(), n < 2 ? 0 : 1);
        }
    }

    /** Of one minute: first what was ordered comes, then the visits are over. */
    private static void ordersBeforeVisits() {
        KeptHouse x = new KeptHouse(0L);
        x.order(1, 1);
        Told.runTo(x, 465);
        x.ticket(0, 0);
        x.tour(0);
        Told.runTo(x, 480);
        int row = x.rows(2);
        x.run(1);
        int[] kinds = {9, 11, 9, 12};
        int[] care = {3000, 0, 3500, 0};
        Check.due("four rows", x.rows(2), row + 4);
        for (int i = 0; i < 4; i++) {
            Check.due("kind of row " + i, x.disk(0, row + i, 0), kinds[i]);
            if (kinds[i] == 9) {
                Check.due("care of row " + i, x.disk(0, row + i, 36) + 256 * x.disk(0, row + i, 37), care[i]);
            }
        }
    }

    /** WEAR that no row has told is 0 when the house begins anew; what an image does not tell is as at first. */
    private static void wearAnew() {
        KeptHouse x = new KeptHouse(0L);
        x.flat(0, 0, 0);
        x.run(3);
        Check.due("three", x.part(0, 1), 3);
        x.reopen();
        Check.due("none", x.part(0, 1), 0);
        KeptHouse y = of(new Image().key(11, 1, part(7, 6, 5, 1)).key(12, 2, ticket(0, 0, 3, 0, 9)));
        y.order(0, 1);
        y.tour(0);
        new Image().feed(y);
        Check.due("put", y.put(), 0);
        int[] first = {5000, 0, 0, 0};
        for (int what = 0; what < 4; what++) {
            Check.due("as at first, " + what, y.part(1, what), first[what]);
        }
        Check.due("no ticket", y.tickets(), 0);
        Check.due("numbers from 0 on", y.ticket(0, 0), 0);
        Check.due("the worker is free", y.tour(0), 1);
        Told.runTo(y, 481);
        Check.due("the order is forgotten", y.part(0, 2), 0);
    }
}
