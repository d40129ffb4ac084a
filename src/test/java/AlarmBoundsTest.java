/** Boundary cases of alarms and of their notes (step 9 of a minute; promises 35 and 36). */
public final class AlarmBoundsTest {
    public static void main(String[] args) {
        noneAtFirst();
        moreThanThirtyBelow();
        thirtyMinutes();
        warmForAMinute();
        noHeartForAMinute();
        whicheverHeart();
        setOfThisMinute();
        allFlats();
        coolForFourHours();
        tripped();
        failed();
        shed();
        stuffyAboveAThousand();
        smoke();
        mouldOfFiveHundred();
        notedOnce();
        kindsInOrder();
        thirtyTwoNotes();
        anew();
        Check.end();
    }

    private static boolean isNoted(KeptHouse x, int kind) {
        for (int k = 0; k < Math.min(32, x.alarms()); k++) {
            if (x.alarm(k, 0) == kind) {
                return true;
            }
        }
        return false;
    }

    private static void latest(String what, KeptHouse x, int kind, int time) {
        Check.due(what + ": kind", x.alarm(0, 0), kind);
        Check.due(what + ": time", x.alarm(0, 1), time);
    }

    private static void noneAtFirst() {
        KeptHouse x = new KeptHouse(0L);
        Check.due("none", x.alarms(), 0);
        Check.illegalArgument("no note", () -> x.alarm(0, 0));
        x.run(1);
        Check.due("none still", x.alarms(), 0);
    }

    /** A house that stays at 180, of which a storey is a flat. */
    private static KeptHouse even(int flat, String program) {
        KeptHouse x = new KeptHouse(0L);
        Told.weather(x, 180);
        x.flat(1, 0, flat);
        Told.program(x, program);
        return x;
    }

    /** "Of more than 30 below its SET": 30 and 31. */
    private static void moreThanThirtyBelow() {
        KeptHouse x = even(0, "b=0;s0=210;");
        x.run(120);
        Check.due("30 below", x.alarms(), 0);
        KeptHouse y = even(0, "b=0;s0=211;");
        y.run(120);
        Check.due("31 below", y.alarms(), 1);
        latest("31 below", y, 0, 29);
    }

    /** "In 30 minutes running, this one the last": 29 and 30. */
    private static void thirtyMinutes() {
        KeptHouse x = even(9, "b=0;s9=300;");
        x.run(29);
        Check.due("29", x.alarms(), 0);
        x.run(1);
        Check.due("30", x.alarms(), 1);
        latest("30", x, 9, 29);
        x.run(60);
        Check.due("it is on", x.alarms(), 1);
    }

    private static void warmForAMinute() {
        KeptHouse x = even(0, "b=0;s0=300;");
        x.run(29);
        Told.program(x, "b=0;s0=210;");
        x.run(1);
        Told.program(x, "b=0;s0=300;");
        x.run(29);
        Check.due("29 and 29", x.alarms(), 0);
        x.run(1);
        Check.due("30 running", x.alarms(), 1);
        latest("30 running", x, 0, 59);
    }

    /** "They begin anew when it has none." */
    private static void noHeartForAMinute() {
        KeptHouse x = even(0, "b=0;s0=300;");
        x.run(29);
        x.flat(1, 0, 15);
        x.run(1);
        x.flat(1, 0, 0);
        x.run(29);
        Check.due("29 and 29", x.alarms(), 0);
        x.run(1);
        Check.due("30 running", x.alarms(), 1);
        x.flat(1, 0, 15);
        x.run(1);
        x.flat(1, 0, 0);
        x.run(29);
        Check.due("off, and not yet on", x.alarms(), 1);
        x.run(1);
        Check.due("on again", x.alarms(), 2);
    }

    /** "Counted for the flat, whichever heart it has." */
    private static void whicheverHeart() {
        KeptHouse x = even(0, "b=0;s0=300;");
        x.run(15);
        x.flat(0, 0, 0);
        x.run(10);
        x.flat(0, 0, 15);
        x.flat(1, 0, 15);
        x.flat(2, 0, 0);
        x.run(4);
        Check.due("29", x.alarms(), 0);
        x.run(1);
        Check.due("30 with three hearts", x.alarms(), 1);
    }

    /** "With a SET that the program told in this minute." */
    private static void setOfThisMinute() {
        KeptHouse x = even(0, "b=0;s0=t<29?300:210;");
        x.run(40);
        Check.due("29 minutes alone", x.alarms(), 0);
        KeptHouse y = even(0, "b=0;s0=t<30?300:210;");
        y.run(40);
        Check.due("30 minutes", y.alarms(), 1);
    }

    private static void allFlats() {
        for (int flat = 0; flat < 10; flat++) {
            KeptHouse x = even(flat, "b=0;s" + flat + "=300;");
            x.run(30);
            Check.due("one", x.alarms(), 1);
            latest("flat " + flat, x, flat, 29);
        }
    }

    /** "11 the COOL minutes are 240 or more": 239 and 240. */
    private static void coolForFourHours() {
        KeptHouse x = new KeptHouse(5L);
        for (int flat = 0; flat < 5; flat++) {
            x.flat(flat, 0, flat);
            x.rate(flat, 500, 0);
            for (int hour = 0; hour < 4; hour++) {
                x.people(flat, hour, 20);
            }
        }
        Told.program(x, "b=0;l=0;s0=50;s1=50;s2=50;s3=50;s4=50;");
        for (int i = 0; i < 40 && x.state(6) == 0; i++) {
            x.run(1);
        }
        Check.due("one cool minute", x.state(6), 1);
        x.run(120);
        x.run(118);
        Check.due("239", x.state(6), 239);
        Check.due("not yet", isNoted(x, 11), false);
        int time = x.state(10);
        x.run(1);
        Check.due("240", x.state(6), 240);
        latest("240", x, 11, time);
    }

    private static void tripped() {
        KeptHouse x = new KeptHouse(0L);
        x.rate(10, 24, 0);
        x.run(49);
        Check.due("a heating of 49", x.alarms(), 0);
        x.run(1);
        Check.due("of 50", x.alarms(), 1);
        latest("of 50", x, 12, 49);
    }

    private static void failed() {
        KeptHouse x = new KeptHouse(0L);
        x.flat(0, 0, 0);
        x.life(0, 3);
        x.run(2);
        Check.due("a wear of 2", x.alarms(), 0);
        x.run(1);
        Check.due("of 3", x.alarms(), 1);
        latest("of 3", x, 13, 2);
    }

    /** 1500 are charged: loads of 25 are carried for 60 minutes when there is no fuel. */
    private static void shed() {
        KeptHouse x = new KeptHouse(0L);
        x.life(2, 1);
        x.mains(false);
        x.run(3);
        Told.program(x, "b=0;");
        int before = x.alarms();
        // 1450 were left when the engine gave, and it took none: 58 minutes more.
        x.run(58);
        Check.due("nothing is left", x.state(0), 0);
        Check.due("but none was shed", x.alarms(), before);
        x.run(1);
        Check.due("now the house is", x.circuit(10, 3), 1);
        latest("shed", x, 14, 61);
    }

    /** "15 a heart has more than 1000 times its cells of STALE": 1000, 1001, and then less. */
    private static void stuffyAboveAThousand() {
        KeptHouse x = new KeptHouse(0L);
        Told.room(x, 0, 0);
        Told.weather(x, 180);
        x.rate(0, 500, 0);
        x.flat(0, 0, 0);
        Told.program(x, "b=0;v=0;l=0;");
        for (int n : new int[] {20, 20, 10}) {
            x.people(0, 0, n);
            x.run(1);
        }
        Check.due("just 1000", x.cell(0, 0, 1), 1000);
        Check.due("not noted", isNoted(x, 15), false);
        x.people(0, 0, 1);
        x.run(1);
        Check.due("1020", x.cell(0, 0, 1), 1020);
        latest("1020", x, 15, 3);
        int[] people = new int[3];
        int[] vents = new int[3];
        find1001(people, vents);
        KeptHouse y = new KeptHouse(0L);
        Told.room(y, 0, 0);
        y.edit(0, 0, 0, 2, 54, 3);
        y.merge(0);
        y.rate(0, 500, 0);
        y.flat(0, 0, 0);
        for (int i = 0; i < 3; i++) {
            Check.due("not noted yet", isNoted(y, 15), false);
            Told.program(y, "b=0;l=0;v=" + vents[i] + ";");
            y.people(0, 0, people[i]);
            y.run(1);
        }
        Check.due("just 1001", y.cell(0, 0, 1), 1001);
        latest("1001", y, 15, 2);
    }

    /** People and vents of three minutes with which a room with two edges of glass has 1001 of STALE. */
    private static void find1001(int[] people, int[] vents) {
        for (int n = 0; n < 21 * 21 * 21; n++) {
            for (int v = 0; v < 10 * 10 * 10; v++) {
                int stale = 0;
                for (int i = 0; i < 3; i++) {
                    people[i] = n / (i == 0 ? 1 : i == 1 ? 21 : 441) % 21;
                    vents[i] = v / (i == 0 ? 1 : i == 1 ? 10 : 100) % 10;
                    stale += 20 * people[i];
                    stale -= stale * (4 + 10 * vents[i]) / 1000;
                }
                if (stale == 1001) {
                    return;
                }
            }
        }
        throw new IllegalStateException("no such minutes");
    }

    /** A room at 20 of smoke and more; the alarm goes by the smoke as the vents left it. */
    private static void smoke() {
        KeptHouse x = new KeptHouse(0L);
        Told.room(x, 2, 9);
        Told.weather(x, 180);
        Told.program(x, "b=0;v=0;x=0;");
        x.ignite(2, 9);
        x.run(1);
        Check.due("20", x.alarms(), 0);
        x.run(1);
        Check.due("60", x.alarms(), 1);
        latest("60", x, 16, 1);
    }

    /** "17 a cell's MOULD is 500 or more": 499 and 500. */
    private static void mouldOfFiveHundred() {
        KeptHouse x = new KeptHouse(0L);
        Told.room(x, 4, 7);
        x.flat(4, 7, 0);
        x.people(0, 0, 20);
        Told.weather(x, -400);
        Told.program(x, "b=0;v=0;l=0;s0=50;");
        for (int i = 0; i < 100 && x.cell(4, 7, 3) == 0; i++) {
            x.run(1);
        }
        Check.due("the first", x.cell(4, 7, 3), 1);
        for (int i = 0; i < 4; i++) {
            x.run(120);
        }
        x.run(18);
        Check.due("499", x.cell(4, 7, 3), 499);
        Check.due("not noted", isNoted(x, 17), false);
        int time = x.state(10);
        x.run(1);
        Check.due("500", x.cell(4, 7, 3), 500);
        latest("500", x, 17, time);
        Told.program(x, "v=9;b=0;s0=50;");
        x.people(0, 0, 0);
        for (int i = 0; i < 60 && x.cell(4, 7, 3) >= 500; i++) {
            x.run(1);
        }
        Check.due("off at 499", x.cell(4, 7, 3), 499);
    }

    /** "An alarm that is on and was not in the latest minute." */
    private static void notedOnce() {
        KeptHouse x = new KeptHouse(0L);
        x.rate(10, 1, 0);
        x.run(1);
        Check.due("noted", x.alarms(), 1);
        x.run(10);
        Check.due("once", x.alarms(), 1);
        x.reset(10);
        x.run(1);
        Check.due("tripped again in the next minute: it was on", x.alarms(), 1);
        x.rate(10, 500, 0);
        x.reset(10);
        x.run(1);
        x.rate(10, 1, 0);
        x.run(1);
        Check.due("off for a minute", x.alarms(), 2);
        latest("again", x, 12, 13);
    }

    /** "(kinds in order)": of one minute the lesser kind is noted first. */
    private static void kindsInOrder() {
        KeptHouse x = even(3, "b=0;s3=300;");
        x.run(29);
        x.rate(10, 1, 0);
        x.run(1);
        Check.due("two", x.alarms(), 2);
        latest("the later", x, 12, 29);
        Check.due("the earlier", x.alarm(1, 0), 3);
        Check.due("its time", x.alarm(1, 1), 29);
    }

    /** "The latest 32 notes are kept": the 32nd and the 33rd. */
    private static void thirtyTwoNotes() {
        KeptHouse x = new KeptHouse(0L);
        for (int i = 0; i < 34; i++) {
            x.rate(10, 1, 0);
            x.run(1);
            x.rate(10, 500, 0);
            x.reset(10);
            x.run(1);
            if (i == 31) {
                Check.due("the first of 32", x.alarm(31, 1), 0);
                Check.illegalArgument("no 33rd", () -> x.alarm(32, 0));
            }
        }
        Check.due("34 in all", x.alarms(), 34);
        Check.due("the latest", x.alarm(0, 1), 66);
        Check.due("the 32nd latest", x.alarm(31, 1), 4);
        Check.illegalArgument("the 33rd is not kept", () -> x.alarm(32, 1));
        Check.illegalArgument("nor the 34th", () -> x.alarm(33, 1));
    }

    /** "When the house begins anew no alarm was on before", and none is noted. */
    private static void anew() {
        KeptHouse x = new KeptHouse(0L);
        x.rate(10, 1, 0);
        x.run(2);
        x.reopen();
        Check.due("none", x.alarms(), 0);
        Check.illegalArgument("none is kept", () -> x.alarm(0, 0));
        x.run(1);
        Check.due("noted anew", x.alarms(), 1);
        latest("anew", x, 12, 0);
        KeptHouse y = even(0, "b=0;s0=300;");
        y.run(29);
        y.reopen();
        y.run(29);
        Check.due("minutes are counted anew", y.alarms(), 0);
        y.run(1);
        Check.due("thirty", y.alarms(), 1);
    }
}
