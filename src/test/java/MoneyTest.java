/** Promises 52 to 55: meters, accounts, money, payments; and the bills of a month. */
public final class MoneyTest {
    private static final int HEAT = 0;
    private static final int POWER = 1;
    private static final int WATER = 2;

    public static void main(String[] args) {
        nothingYet();
        paying();
        billOfAnImage();
        byAreas();
        lost();
        wholeMonths();
        wrongArguments();
        Check.end();
    }

    private static void nothingYet() {
        KeptHouse x = new KeptHouse(0L);
        for (int flat = 0; flat < 10; flat++) {
            Check.due("balance", x.account(flat, 0), 0);
            Check.due("bill", x.account(flat, 1), 0);
        }
        for (int what = 0; what < 4; what++) {
            Check.due("money", x.money(what), 0);
        }
        for (int what = 0; what < 3; what++) {
            Check.due("meter", x.meter(10, what), 0);
        }
    }

    private static void paying() {
        KeptHouse x = new KeptHouse(0L);
        Check.due("paid", x.pay(4, 100000000), 0);
        Check.due("paid again", x.pay(4, 1), 0);
        Check.due("another", x.pay(9, 50), 0);
        Check.due("balance", x.account(4, 0), 100000001);
        Check.due("cash", x.money(0), 100000051);
        Check.due("two rows each", x.rows(2), 7);
        Check.due("kind 8", x.disk(0, 5, 0), 8);
        Check.due("flat 9", x.disk(0, 5, 1), 9);
        Check.due("its balance", x.disk(0, 5, 12), 50);
        Check.due("kind 9", x.disk(0, 6, 0), 9);
        Check.due("cash, lowest byte", x.disk(0, 6, 16), 100000051 % 256);
        x.crash(1);
        Check.due("cut", x.pay(4, 7), KeptHouse.CUT);
        x.reopen();
        Check.due("balance as before", x.account(4, 0), 100000001);
        Check.due("cash as before", x.money(0), 100000051);
    }

    /** Meters that an image tells, in the last minute of a month; no one is there, nothing is heated. */
    private static Image month(long gas, long care, int... prices) {
        Image image = new Image();
        image.key(9, 0, Image.join(Image.numbers(4, 2399), Image.numbers(8, 1000, 3), Image.numbers(4, gas, care)));
        image.key(10, 0, Image.numbers(4, 500, 900, 0, prices[0], prices[1], prices[2]));
        return image;
    }

    private static Image flats(Image image, int[] heat, int[] power, int[] water) {
        Image all = new Image();
        for (int flat = 0; flat < heat.length; flat++) {
            all.key(8, flat, Image.join(Image.numbers(8, 100, 77),
                    Image.numbers(4, heat[flat], power[flat], water[flat])));
        }
        return all.with(image);
    }

    private static void billOfAnImage() {
        KeptHouse x = new KeptHouse(0L);
        int[] heat = {10, 20, 0};
        int[] power = {100, 1, 1};
        int[] water = {0, 0, 7};
        Image image = new Image();
        // Flat 0 has storey 0, flat 1 storey 1: areas 48 and 48; flat 2 has none.
        image.key(2, 0, cells(0));
        image.key(2, 1, cells(1));
        image.with(flats(month(1003, 101, 33, 50, 200), heat, power, water));
        image.feed(x);
        Check.due("put", x.put(), 0);
        Check.due("heat meter", x.meter(1, HEAT), 20);
        Check.due("power meter", x.meter(10, POWER), 500);
        Check.due("house's heat", x.meter(10, HEAT), 900);
        Check.due("water meter", x.meter(2, WATER), 7);
        Check.due("bill before", x.account(0, 1), 77);
        x.run(1);
        // Gas: 1003 * 33 by 100 = 330: 231 by heat (77, 154, 0) and 99 by areas (50, 49, 0).
        // Power: (100 + 1 + 1 + 500 + 25) * 50 by 100 = 313: by 100, 1, 1 of 102: 306.86, 3.07, 3.07:
        // 306, 3, 3, and the one left goes to the first. Water: 14, all to flat 2. Care: 101: 51 and 50.
        Check.due("bill 0", x.account(0, 1), 77 + 50 + 307 + 51);
        Check.due("bill 1", x.account(1, 1), 154 + 49 + 3 + 50);
        Check.due("bill 2", x.account(2, 1), 3 + 14);
        Check.due("bill 3", x.account(3, 1), 0);
        Check.due("balance 0", x.account(0, 0), 100 - 485);
        Check.due("balance 2", x.account(2, 0), 100 - 17);
        Check.due("balance 3", x.account(3, 0), 0);
        Check.due("cash", x.money(0), 1000 - 330 - 313 - 14 - 101);
        Check.due("lost", x.money(1), 3);
        Check.due("gas", x.money(2), 0);
        Check.due("care", x.money(3), 0);
        for (int flat = 0; flat < 11; flat++) {
            for (int what = 0; what < 3; what++) {
                Check.due("meter " + flat, x.meter(flat, what), 0);
            }
        }
        Check.due("and then the group of the day", x.rows(2), 1 + x.rows(3) - 10 + 15);
        x.reopen();
        Check.due("kept bill", x.account(0, 1), 485);
        Check.due("kept balance", x.account(0, 0), -385);
        Check.due("kept cash", x.money(0), 242);
        Check.due("kept time", x.state(10), 2400);
    }

    private static int[] cells(int flat) {
        int[] all = new int[24];
        for (int i = 0; i < 24; i++) {
            all[i] = flat + 16 * flat;
        }
        return all;
    }

    /** Meters that are all 0: what is to be shared in them is shared in the areas. */
    private static void byAreas() {
        KeptHouse x = new KeptHouse(0L);
        Image image = new Image();
        image.key(2, 0, cells(3));
        image.with(month(1000, 0, 100, 100, 0));
        image.feed(x);
        Check.due("put", x.put(), 0);
        x.run(1);
        Check.due("all to flat 3", x.account(3, 1), 1000 + 525);
        Check.due("nothing lost", x.money(1), 3);
    }

    /** No flat at all: costs are lost. */
    private static void lost() {
        KeptHouse x = new KeptHouse(0L);
        month(1000, 55, 100, 100, 1000).feed(x);
        Check.due("put", x.put(), 0);
        x.run(1);
        Check.due("lost", x.money(1), 3 + 1000 + 525 + 55);
        Check.due("cash", x.money(0), 1000 - 1580);
        Check.due("no bill", x.account(0, 1), 0);
    }

    /** What is billed and what is lost are the costs, to the last cent. */
    private static void wholeMonths() {
        KeptHouse x = new KeptHouse(77L);
        for (int flat = 0; flat < 4; flat++) {
            x.flat(flat, 0, flat);
            Told.people(x, flat, 3 + flat);
            x.rate(flat, 500, 0);
        }
        x.price(1, 13);
        x.price(2, 17);
        x.price(3, 19);
        x.order(1, 2);
        long cash = 0;
        for (int month = 1; month <= 2; month++) {
            for (int i = 0; i < 19; i++) {
                x.run(120);
            }
            x.run(119);
            Check.due("no bill within a month", x.account(0, 1) > 0, month > 1);
            x.run(1);
            long bills = 0;
            for (int flat = 0; flat < 10; flat++) {
                bills += x.account(flat, 1);
            }
            cash -= bills;
            Check.due("cash of month " + month, x.money(0), cash);
            Check.due("bills are there", bills > 0, true);
            Check.due("nothing lost", x.money(1), 0);
            Check.due("flat without people", x.account(9, 1), 0);
        }
    }

    private static void wrongArguments() {
        KeptHouse x = new KeptHouse(0L);
        Check.illegalArgument("meter 11", () -> x.meter(11, 0));
        Check.illegalArgument("meter -1", () -> x.meter(-1, 0));
        Check.illegalArgument("meter what 3", () -> x.meter(0, 3));
        Check.illegalArgument("meter what -1", () -> x.meter(0, -1));
        Check.illegalArgument("account 10", () -> x.account(10, 0));
        Check.illegalArgument("account -1", () -> x.account(-1, 0));
        Check.illegalArgument("account what 2", () -> x.account(0, 2));
        Check.illegalArgument("account what -1", () -> x.account(0, -1));
        Check.illegalArgument("money 4", () -> x.money(4));
        Check.illegalArgument("money -1", () -> x.money(-1));
        Check.illegalArgument("pay flat", () -> x.pay(10, 1));
        Check.illegalArgument("pay flat -1", () -> x.pay(-1, 1));
        Check.illegalArgument("pay 0", () -> x.pay(0, 0));
        Check.illegalArgument("pay too much", () -> x.pay(0, 100000001));
        Check.due("nothing was paid", x.money(0), 0);
    }
}
