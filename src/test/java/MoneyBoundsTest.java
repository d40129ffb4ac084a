/** Boundary cases of meters, costs, bills and payments (promises 52 to 55). */
public final class MoneyBoundsTest {
    private static final int MOST = 100000000;
    private static final long RICH = 1000000000000000L;

    public static void main(String[] args) {
        nothingAtFirst();
        leastAndMostPaid();
        paymentsAreKept();
        payIsCut();
        costsByHundreds();
        sevenTenths();
        powerWithTheHouse();
        waterCosts();
        careInAreas();
        restsToTheFirst();
        greatestRests();
        noMetersButAreas();
        noAreasAtAll();
        metersWithoutAreas();
        allAreZeroThen();
        latestBill();
        greatestSums();
        freeOfCharge();
        greatestSumsAreKept();
        moneyAnew();
        Check.end();
    }

    /** A month's last minute: an image with time 2399, in which the boiler gives nothing. */
    private static final class Month {
        final long[][] meters = new long[10][3];
        long gas;
        long care;
        long housePower;
        final long[] prices = new long[3];

        Image image() {
            Image image = new Image();
            for (int flat = 0; flat < 10; flat++) {
                image.key(8, flat, Image.join(new int[16], Image.numbers(4, meters[flat])));
            }
            image.key(9, 0, Image.join(Image.numbers(4, 2399), new int[16], Image.numbers(4, gas, care)));
            return image.key(10, 0, Image.numbers(4, housePower, 0, 0, prices[0], prices[1], prices[2]));
        }

        /** The house one minute before its bills, with flats in so many storeys. */
        KeptHouse house(int... flats) {
            KeptHouse x = new KeptHouse(0L);
            image().feed(x);
            Check.due("put", x.put(), 0);
            for (int storey = 0; storey < flats.length; storey++) {
                x.flat(storey, 0, flats[storey]);
            }
            return x;
        }
    }

    private static void bills(String what, KeptHouse x, long... due) {
        x.run(1);
        for (int flat = 0; flat < 10; flat++) {
            long want = flat < due.length ? due[flat] : 0;
            Check.due(what + ": bill of " + flat, x.account(flat, 1), want);
            Check.due(what + ": balance of " + flat, x.account(flat, 0), -want);
        }
    }

    private static void nothingAtFirst() {
        KeptHouse x = new KeptHouse(0L);
        for (int flat = 0; flat < 11; flat++) {
            for (int what = 0; what < 3; what++) {
                Check.due("meter", x.meter(flat, what), 0);
            }
        }
        for (int flat = 0; flat < 10; flat++) {
            Check.due("balance", x.account(flat, 0), 0);
            Check.due("no bill", x.account(flat, 1), 0);
        }
        for (int what = 0; what < 4; what++) {
            Check.due("money " + what, x.money(what), 0);
        }
    }

    private static void leastAndMostPaid() {
        KeptHouse x = new KeptHouse(0L);
        Check.due("one cent", x.pay(0, 1), 0);
        Check.due("balance", x.account(0, 0), 1);
        Check.due("cash", x.money(0), 1);
        Check.due("most", x.pay(9, MOST), 0);
        Check.due("most again", x.pay(9, MOST), 0);
        Check.due("balance of 9", x.account(9, 0), 2L * MOST);
        Check.due("cash then", x.money(0), 2L * MOST + 1);
        for (int i = 0; i < 30; i++) {
            x.pay(5, MOST);
        }
        Check.due("more than 32 bits", x.account(5, 0), 3000000000L);
        x.reopen();
        Check.due("kept", x.account(5, 0), 3000000000L);
        Check.due("cash is kept", x.money(0), 3200000001L);
    }

    /** "A group with rows 8 of the flat and 9." */
    private static void paymentsAreKept() {
        KeptHouse x = new KeptHouse(0L);
        x.pay(9, 258);
        Check.due("two rows", x.rows(2), 3);
        Check.due("8", x.disk(0, 1, 0) * 16 + x.disk(0, 1, 1), 8 * 16 + 9);
        Check.due("9", x.disk(0, 2, 0) * 16 + x.disk(0, 2, 1), 9 * 16);
        Check.due("low byte", x.disk(0, 1, 12), 2);
        Check.due("next byte", x.disk(0, 1, 13), 1);
        Check.due("cash, low", x.disk(0, 2, 16), 2);
        Check.due("cash, next", x.disk(0, 2, 17), 1);
    }

    private static void payIsCut() {
        for (int n = 0; n <= 2; n++) {
            KeptHouse x = new KeptHouse(0L);
            x.crash(n);
            Check.due("with " + n, x.pay(3, 7), n < 2 ? KeptHouse.CUT : 0);
            x.reopen();
            Check.due("balance", x.account(3, 0), n < 2 ? 0 : 7);
            Check.due("cash", x.money(0), n < 2 ? 0 : 7);
        }
    }

    /** "GAS times its price by 100": 99, 100, 199, 200 times 1. */
    private static void costsByHundreds() {
        long[][] due = {{0, 1, 0}, {99, 1, 0}, {100, 1, 1}, {199, 1, 1}, {200, 1, 2}, {1, 99, 0}, {1, 100, 1}, {7, 1000, 70}};
        for (long[] row : due) {
            Month month = new Month();
            month.gas = row[0];
            month.prices[0] = row[1];
            KeptHouse x = month.house(0);
            bills("gas of " + row[0] + " at " + row[1], x, row[2]);
            Check.due("cash", x.money(0), -row[2]);
            Check.due("nothing is lost", x.money(1), 0);
        }
    }

    /** "7 tenths of it (rounded down), shared in the heat meters, and the rest, shared in the AREAS". */
    private static void sevenTenths() {
        for (int cost : new int[] {0, 1, 2, 3, 9, 10, 11, 19, 20, 100}) {
            Month month = new Month();
            month.gas = cost;
            month.prices[0] = 100;
            month.meters[4][0] = 1;
            KeptHouse x = month.house(2);
            long byHeat = cost * 7L / 10;
            bills("cost of " + cost, x, 0, 0, cost - byHeat, 0, byHeat);
            Check.due("nothing is lost", x.money(1), 0);
        }
    }

    /** "All power meters (with the house's) together": 25 of the last minute, and what was metered before it. */
    private static void powerWithTheHouse() {
        Month month = new Month();
        month.housePower = 55;
        month.meters[0][1] = 15;
        month.meters[1][1] = 5;
        month.prices[1] = 100;
        KeptHouse x = month.house();
        Told.program(x, "v=1;");
        // 15, 5 and 55, and 25 of this minute: 100, shared in 15 and 5.
        bills("power", x, 75, 25);
        Month none = new Month();
        none.housePower = 74;
        none.prices[1] = 1;
        KeptHouse y = none.house(7);
        bills("99 by 100", y, 0);
        none.housePower = 75;
        KeptHouse z = none.house(7);
        bills("100 by 100, by areas", z, 0, 0, 0, 0, 0, 0, 0, 1);
    }

    private static void waterCosts() {
        Month month = new Month();
        month.meters[3][2] = 60;
        month.meters[9][2] = 39;
        month.prices[2] = 1;
        bills("99", month.house(0), 0);
        month.meters[9][2] = 40;
        bills("100", month.house(0), 0, 0, 0, 1);
        month.prices[2] = 1000;
        bills("1000", month.house(0), 0, 0, 0, 600, 0, 0, 0, 0, 0, 400);
    }

    /** "CARE in the AREAS": a room of one cell and the 47 round it. */
    private static void careInAreas() {
        Month month = new Month();
        month.care = 480;
        KeptHouse x = month.house();
        Told.room(x, 0, 0);
        x.flat(0, 0, 0);
        x.flat(0, 1, 1);
        bills("care", x, 10, 470);
        KeptHouse y = month.house(0, 0, 0, 0, 0);
        bills("all of one", y, 480);
    }

    /** "What is left over goes one by one .. of several to the first in the order." */
    private static void restsToTheFirst() {
        for (int care = 0; care < 10; care++) {
            Month month = new Month();
            month.care = care;
            KeptHouse x = month.house(8, 6, 4, 2, 0);
            long[] due = new long[10];
            for (int i = 0; i < 5; i++) {
                due[2 * i] = care / 5 + (i < care % 5 ? 1 : 0);
            }
            bills("care of " + care, x, due);
        }
    }

    private static void greatestRests() {
        Month month = new Month();
        month.meters[0][2] = 10;
        month.meters[1][2] = 20;
        month.meters[2][2] = 70;
        month.prices[2] = 2;
        // 2 in 10, 20, 70: 0 rest 20, 0 rest 40, 1 rest 40: of two rests of 40 the first.
        bills("2", month.house(), 0, 1, 1);
        month.prices[2] = 3;
        // 0 rest 30, 0 rest 60, 2 rest 10.
        bills("3", month.house(), 0, 1, 2);
        month.prices[2] = 5;
        // 0 rest 50, 1 rest 0, 3 rest 50.
        bills("5", month.house(), 1, 1, 3);
        month.prices[2] = 9;
        // 0 rest 90, 1 rest 80, 6 rest 30.
        bills("9", month.house(), 1, 2, 6);
        month.prices[2] = 10;
        bills("10", month.house(), 1, 2, 7);
    }

    /** "A part that is to be shared in meters that are all 0 is shared in the AREAS." */
    private static void noMetersButAreas() {
        Month month = new Month();
        month.gas = 100;
        month.prices[0] = 100;
        month.housePower = 75;
        month.prices[1] = 100;
        KeptHouse x = month.house(1, 2);
        bills("gas and power", x, 0, 100, 100);
        Check.due("nothing is lost", x.money(1), 0);
    }

    /** "What is not shared then is LOST": CASH loses the COSTS all the same. */
    private static void noAreasAtAll() {
        Month month = new Month();
        month.gas = 100;
        month.prices[0] = 100;
        month.care = 33;
        month.housePower = 75;
        month.prices[1] = 100;
        KeptHouse x = month.house();
        bills("all", x);
        Check.due("cash", x.money(0), -233);
        Check.due("lost", x.money(1), 233);
    }

    /** Meters without any AREA: what is shared in meters is billed, what is in AREAS is LOST. */
    private static void metersWithoutAreas() {
        Month month = new Month();
        month.gas = 100;
        month.prices[0] = 100;
        month.care = 33;
        month.meters[6][0] = 1;
        KeptHouse x = month.house();
        bills("the 70", x, 0, 0, 0, 0, 0, 0, 70);
        Check.due("cash", x.money(0), -133);
        Check.due("lost", x.money(1), 63);
    }

    private static void allAreZeroThen() {
        Month month = new Month();
        month.gas = 5;
        month.care = 6;
        month.housePower = 7;
        for (int flat = 0; flat < 10; flat++) {
            month.meters[flat] = new long[] {1, 2, 3};
        }
        KeptHouse x = month.house();
        Check.due("before: gas", x.money(2), 5);
        Check.due("before: meter", x.meter(9, 2), 3);
        x.run(1);
        for (int flat = 0; flat < 11; flat++) {
            for (int what = 0; what < 3; what++) {
                Check.due("meter " + flat + ", " + what, x.meter(flat, what), 0);
            }
        }
        Check.due("gas", x.money(2), 0);
        Check.due("care", x.money(3), 0);
        x.reopen();
        Check.due("kept so", x.meter(0, 0), 0);
        Check.due("time", x.state(10), 2400);
    }

    /** "Its latest BILL (1; 0 before any)": one of the next month takes its place, be it 0. */
    private static void latestBill() {
        Month month = new Month();
        month.care = 48;
        KeptHouse x = month.house(0);
        bills("first", x, 48);
        x.pay(0, 50);
        Check.due("paid", x.account(0, 0), 2);
        Check.due("the bill stays", x.account(0, 1), 48);
        Told.runTo(x, 4799);
        Check.due("still the first", x.account(0, 1), 48);
        x.run(1);
        Check.due("the second is 0", x.account(0, 1), 0);
        Check.due("balance", x.account(0, 0), 2);
    }

    /** Sums at the ends of what an image may tell; they go on from there. */
    private static void greatestSums() {
        KeptHouse x = new KeptHouse(0L);
        new Image().key(8, 0, Image.join(Image.numbers(8, RICH, -RICH), Image.numbers(4, MOST, MOST, MOST)))
                .key(8, 1, Image.join(Image.numbers(8, -RICH, RICH), Image.numbers(4, 0, 0, 0)))
                .key(9, 0, Image.join(Image.numbers(4, 2399), Image.numbers(8, RICH, -RICH), Image.numbers(4, MOST, MOST)))
                .key(10, 0, Image.numbers(4, MOST, MOST, 0, 1000, 1000, 1000)).feed(x);
        Check.due("put", x.put(), 0);
        Check.due("balance", x.account(0, 0), RICH);
        Check.due("bill", x.account(0, 1), -RICH);
        Check.due("meter", x.meter(0, 2), MOST);
        Check.due("house's power", x.meter(10, 1), MOST);
        Check.due("house's heat", x.meter(10, 0), MOST);
        Check.due("cash", x.money(0), RICH);
        Check.due("lost", x.money(1), -RICH);
        x.pay(0, MOST);
        x.pay(1, MOST);
        Check.due("above", x.account(0, 0), RICH + MOST);
        Check.due("below", x.account(1, 0), -RICH + MOST);
        Told.program(x, "v=0;");
        x.run(1);
        // Gas 10 times 10^8, of which 3 tenths are lost; power twice 10^9 and 200; water 10^9; care 10^8 lost.
        long gas = 1000000000L;
        long power = 2000000200L;
        long bill = gas / 10 * 7 + power + 1000000000L;
        Check.due("bill", x.account(0, 1), bill);
        Check.due("balance then", x.account(0, 0), RICH + MOST - bill);
        Check.due("cash then", x.money(0), RICH + 2L * MOST - gas - power - 1000000000L - MOST);
        Check.due("lost then", x.money(1), -RICH + gas / 10 * 3 + MOST);
    }

    /** Prices are 0 at first: meters of a whole month cost nothing. */
    private static void freeOfCharge() {
        KeptHouse x = new KeptHouse(0L);
        x.flat(0, 0, 0);
        Told.people(x, 0, 3);
        Told.runTo(x, 2399);
        Check.due("power was taken", x.meter(0, 1) > 0, true);
        Check.due("heat was given", x.meter(0, 0) > 0, true);
        bills("free", x);
        Check.due("cash", x.money(0), 0);
        Check.due("lost", x.money(1), 0);
    }

    /** Sums and meters at their ends are written and read again whole. */
    private static void greatestSumsAreKept() {
        KeptHouse x = new KeptHouse(0L);
        new Image().key(8, 0, Image.join(Image.numbers(8, -RICH, -RICH), Image.numbers(4, MOST, MOST, MOST)))
                .key(9, 0, Image.join(Image.numbers(4, 1000000), Image.numbers(8, -RICH, -RICH), Image.numbers(4, MOST, MOST)))
                .key(10, 0, Image.numbers(4, MOST, MOST, 20000, 1000, 1000, 1000))
                .key(11, 0, Image.join(Image.numbers(4, 100000, MOST, 99), new int[] {1})).feed(x);
        Check.due("put", x.put(), 0);
        x.pay(0, 1);
        x.price(1, 999);
        x.life(0, 99999);
        x.reopen();
        Check.due("balance", x.account(0, 0), -RICH + 1);
        Check.due("bill", x.account(0, 1), -RICH);
        for (int what = 0; what < 3; what++) {
            Check.due("meter " + what, x.meter(0, what), MOST);
        }
        Check.due("the house's heat", x.meter(10, 0), MOST);
        Check.due("the house's power", x.meter(10, 1), MOST);
        Check.due("cash", x.money(0), -RICH + 1);
        Check.due("lost", x.money(1), -RICH);
        Check.due("gas", x.money(2), MOST);
        Check.due("care", x.money(3), MOST);
        Check.due("time", x.state(10), 1000000);
        Check.due("cap", x.price(0, 0), 20000);
        Check.due("price", x.price(1, 0), 999);
        Check.due("life", x.part(0, 0), 99999);
        Check.due("wear", x.part(0, 1), MOST);
        Check.due("stock", x.part(0, 2), 99);
        Check.due("failed", x.part(0, 3), 1);
    }

    /** What an image does not tell is as at first: accounts, money, meters, prices. */
    private static void moneyAnew() {
        Month month = new Month();
        month.care = 480;
        month.gas = 7;
        month.prices[0] = 5;
        KeptHouse x = month.house(0);
        x.run(2);
        x.pay(0, 9);
        Check.due("a bill", x.account(0, 1), 480);
        new Image().feed(x);
        Check.due("put", x.put(), 0);
        for (int flat = 0; flat < 10; flat++) {
            Check.due("balance", x.account(flat, 0), 0);
            Check.due("bill", x.account(flat, 1), 0);
        }
        for (int what = 0; what < 4; what++) {
            Check.due("money " + what, x.money(what), 0);
        }
        Check.due("the house's power", x.meter(10, 1), 0);
        Check.due("cap", x.price(0, 1), 5000);
        Check.due("price", x.price(1, 1), 0);
        Check.due("time", x.state(10), 0);
    }
}
