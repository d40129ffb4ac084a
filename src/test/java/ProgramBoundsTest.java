/** Boundary cases of the text, its tokens, its faults and its values (promises 21 to 25). */
public final class ProgramBoundsTest {
    private static final int NONE = KeptHouse.NONE;

    public static void main(String[] args) {
        emptyPrograms();
        longestText();
        digits();
        names();
        rowsOfLettersAndDigits();
        statements();
        thirteenth();
        tenWithin();
        whatIsWithin();
        whatIsNotWithin();
        tokensThatCantBeThere();
        ends();
        firstOfFaults();
        comparisons();
        sums();
        limits();
        sets();
        vents();
        switches();
        targetsAreAsTheyAreThen();
        factsAreAsTheMinuteBegins();
        namesWithoutAHeart();
        latestFault();
        loadedAnew();
        rowsOfAProgram();
        loadIsCut();
        oneBehindAnother();
        staleByCells();
        fireIsKnown();
        Check.end();
    }

    private static void good(String text, int want) {
        KeptHouse x = new KeptHouse(0L);
        Told.text(x, text);
        Check.due("load of " + text, x.load(), want);
        Check.due("no fault", x.fault(0), NONE);
        Check.due("no place", x.fault(1), NONE);
    }

    private static void bad(String text, int fault, int place) {
        KeptHouse x = new KeptHouse(0L);
        Told.text(x, text);
        Check.due("load of " + text, x.load(), KeptHouse.WRONG);
        Check.due("fault of " + text, x.fault(0), fault);
        Check.due("place of " + text, x.fault(1), place);
    }

    /** THE SET of flat 0 as an expression tells it in the first minute. */
    private static void value(String expression, int want) {
        KeptHouse x = new KeptHouse(0L);
        Told.program(x, "s0=" + expression + ";");
        x.run(1);
        Check.due("s0=" + expression, x.target(0), want);
    }

    private static void emptyPrograms() {
        good("", 0);
        good(" ", 0);
        good(" ".repeat(196), 0);
        good("l=1;", 1);
        good("   l = 1 ;  ", 1);
        bad(";", 2, 0);
    }

    /** "At most 196 characters": a program that ends with the 196th, and faults there. */
    private static void longestText() {
        good(" ".repeat(192) + "l=1;", 1);
        bad(" ".repeat(193) + "l=1", 2, 196);
        bad(" ".repeat(195) + "l", 2, 196);
        bad(" ".repeat(195) + "!", 1, 195);
        bad(" ".repeat(195) + "7", 2, 195);
        bad(" ".repeat(195) + "q", 3, 195);
        good("s0=" + "1*".repeat(95) + "7;" + " ", 1);
    }

    /** "Numbers (one to six digits)"; 4: of more than six. */
    private static void digits() {
        good("l=0;", 1);
        good("l=999999;", 1);
        good("l=000000;", 1);
        bad("l=1000000;", 4, 2);
        bad("l=0000000;", 4, 2);
        bad("l=12345678901234567890;", 4, 2);
        bad("1234567", 4, 0);
        bad("123456", 2, 0);
        bad("l=1 1234567;", 4, 4);
        bad("l=1 123456;", 2, 4);
        value("000099", 99);
        value("999999-999900", 99);
    }

    /** Names of one or two characters; 3: a word that is no name, or where a target must be, no target. */
    private static void names() {
        for (int i = 0; i < 10; i++) {
            good("s" + i + "=w" + i + "+c" + i + "+d" + i + "+s" + i + ";", 1);
            bad("w" + i + "=1;", 3, 0);
            bad("c" + i + "=1;", 3, 0);
            bad("d" + i + "=1;", 3, 0);
        }
        for (String target : new String[] {"l", "b", "p", "v", "r", "x"}) {
            good(target + "=" + target + ";", 1);
        }
        for (String fact : new String[] {"f", "o", "h", "t", "k", "e", "m"}) {
            good("l=" + fact + ";", 1);
            bad(fact + "=1;", 3, 0);
        }
        for (String word : new String[] {"s", "w", "c", "d", "s10", "s00", "l0", "sa", "L", "S0", "sS", "a0", "ll"}) {
            bad("l=" + word + ";", 3, 2);
            bad(word + "=1;", 3, 0);
        }
    }

    /** "A row of letters and digits that begins with a letter is one token, and so is one of digits." */
    private static void rowsOfLettersAndDigits() {
        bad("l=s0s1;", 3, 2);
        bad("l=1s0;", 2, 3);
        bad("l=12ab;", 2, 4);
        bad("l=s 0;", 3, 2);
        bad("l=1 2;", 2, 4);
        bad("l=1234567a;", 4, 2);
        bad("l=a1234567;", 3, 2);
        good("l=s0+1;", 1);
        bad("l=@;", 1, 2);
        bad("l=[;", 1, 2);
        bad("l=`;", 1, 2);
        bad("l={;", 1, 2);
        bad("l=/;", 1, 2);
        bad("l=,;", 1, 2);
    }

    /** "Any number of STATEMENTS, 12 at most." */
    private static void statements() {
        good("l=1;".repeat(11), 11);
        good("l=1;".repeat(12), 12);
        good("l=1;".repeat(12) + "   ", 12);
        bad("l=1;".repeat(13), 6, 48);
        bad("l=1;".repeat(12) + "  b=1;", 6, 50);
    }

    /** "6 a 13th statement (at its first token, whatever that is)"; 1 and 4 are looked at before. */
    private static void thirteenth() {
        String twelve = "l=1;".repeat(12);
        bad(twelve + ";", 6, 48);
        bad(twelve + "=", 6, 48);
        bad(twelve + "q", 6, 48);
        bad(twelve + "w0", 6, 48);
        bad(twelve + "123456", 6, 48);
        bad(twelve + "1234567", 4, 48);
        bad(twelve + "!", 1, 48);
        bad("l=1;".repeat(11) + "q", 3, 44);
        bad("l=1;".repeat(11) + ";", 2, 44);
        bad("l=1;".repeat(11) + "l=1", 2, 47);
    }

    /** "5 a ( or a - of a factor or a ? within ten others (of these three)": ten may be, an eleventh not. */
    private static void tenWithin() {
        good("l=" + "(".repeat(10) + "1" + ")".repeat(10) + ";", 1);
        bad("l=" + "(".repeat(12), 5, 12);
        bad("l=" + "(".repeat(11) + "1" + ")".repeat(11) + ";", 5, 12);
        good("l=" + "-".repeat(10) + "1;", 1);
        bad("l=" + "-".repeat(11) + "1;", 5, 12);
        good("l=" + "1?".repeat(10) + "1" + ":1".repeat(10) + ";", 1);
        bad("l=" + "1?".repeat(11) + "1" + ":1".repeat(11) + ";", 5, 23);
        good("l=" + "1?1:".repeat(10) + "1;", 1);
        bad("l=" + "1?1:".repeat(11) + "1;", 5, 43);
        good("l=" + "-(".repeat(5) + "1" + ")".repeat(5) + ";", 1);
        bad("l=" + "-(".repeat(5) + "-1" + ")".repeat(5) + ";", 5, 12);
        bad("l=" + "-(".repeat(5) + "(1)" + ")".repeat(5) + ";", 5, 12);
        bad("l=" + "-(".repeat(5) + "1?1:1" + ")".repeat(5) + ";", 5, 13);
    }

    /** "What is in ( ), the factor behind such a -, both expressions behind a ? are within it." */
    private static void whatIsWithin() {
        String nine = "(".repeat(9);
        String end = ")".repeat(9) + ";";
        good("l=" + nine + "-1" + end, 1);
        bad("l=" + nine + "-(1)" + end, 5, 12);
        good("l=" + nine + "1?2:3" + end, 1);
        bad("l=" + nine + "1?(2):3" + end, 5, 13);
        bad("l=" + nine + "1?2:(3)" + end, 5, 15);
        bad("l=" + nine + "1?2:-3" + end, 5, 15);
        bad("l=" + nine + "1?2:3?4:5" + end, 5, 16);
        bad("l=" + nine + "(-1)" + end, 5, 12);
        bad("l=" + nine + "(1?2:3)" + end, 5, 13);
    }

    /** What stands before a ?, behind a ) or behind the factor of a - is not within it. */
    private static void whatIsNotWithin() {
        String nine = "(".repeat(9);
        String end = ")".repeat(9) + ";";
        good("l=" + nine + "(1)?2:3" + end, 1);
        good("l=" + nine + "(1)+(2)" + end, 1);
        good("l=" + nine + "-1+-2*-3" + end, 1);
        good("l=" + nine + "-1*(2)" + end, 1);
        good("l=" + nine + "(1)+-2<-3?4:5" + end, 1);
        good("l=1-1-1-1-1-1-1-1-1-1-1-1-1;", 1);
        good("l=" + "(1?2:3)+".repeat(12) + "1;", 1);
        good("l=" + "(".repeat(10) + "1" + ")".repeat(10) + ";b=" + "(".repeat(10) + "1" + ")".repeat(10) + ";", 2);
        // The - between two products is no - of a factor.
        good("l=" + "(".repeat(10) + "1-1" + ")".repeat(10) + ";", 1);
        bad("l=" + "(".repeat(10) + "1--1" + ")".repeat(10) + ";", 5, 14);
    }

    private static void tokensThatCantBeThere() {
        bad("l", 2, 1);
        bad("l 1;", 2, 2);
        bad("l==1;", 2, 2);
        bad("l=;", 2, 2);
        bad("l=+1;", 2, 2);
        bad("l=*1;", 2, 2);
        bad("l=);", 2, 2);
        bad("l=1);", 2, 3);
        bad("l=(1;", 2, 4);
        bad("l=();", 2, 3);
        bad("l=1+;", 2, 4);
        bad("l=1<2<3;", 2, 5);
        bad("l=1<2>3;", 2, 5);
        bad("l=1?2;", 2, 5);
        bad("l=1?2:;", 2, 6);
        bad("l=1:2;", 2, 3);
        bad("l=1?2:3:4;", 2, 7);
        bad("l=(1?2):3;", 2, 6);
        bad("l=1?(2:3);", 2, 6);
        bad("l=1(2);", 2, 3);
        bad("l=(1)(2);", 2, 5);
        bad("l=1=2;", 2, 3);
        bad("l=1;;", 2, 4);
        bad("l=1,", 1, 3);
    }

    /** The end of the text as a token that can't be there: its place is the length, with blanks. */
    private static void ends() {
        bad("l=", 2, 2);
        bad("l=1", 2, 3);
        bad("l=1  ", 2, 5);
        bad("l=(", 2, 3);
        bad("l=-", 2, 3);
        bad("l=1?", 2, 4);
        bad("l=1?2:3", 2, 7);
        bad("l=1;b", 2, 5);
        bad("l =", 2, 3);
    }

    /** "The first that reading from the left meets"; of one token 1 and 4, then 6, 2, 3, 5. */
    private static void firstOfFaults() {
        bad("q=!", 3, 0);
        bad("l=q!", 3, 2);
        bad("l=1 q;", 2, 4);
        bad("l=1 Q9;", 2, 4);
        bad("l q;", 2, 2);
        bad("l=!1234567", 1, 2);
        bad("l=1234567!", 4, 2);
        bad("l=1234567q;", 4, 2);
        // A ( behind an operand can't be there, however deep it is.
        bad("l=" + "(".repeat(10) + "1(", 2, 13);
        bad("l=" + "(".repeat(10) + "1+?", 2, 14);
        bad("l=" + "(".repeat(10) + "1<2<", 2, 15);
        bad("l=" + "(".repeat(10) + "q", 3, 12);
    }

    /** "1 if that is so, else 0": less, the same, more. */
    private static void comparisons() {
        value("100+(1<2)", 101);
        value("100+(2<2)", 100);
        value("100+(3<2)", 100);
        value("100+(1>2)", 100);
        value("100+(2>2)", 100);
        value("100+(3>2)", 101);
        value("0?60:70", 70);
        value("1?60:70", 60);
        value("-1?60:70", 60);
        value("2-2?60:70", 70);
        value("1<2?60:70", 60);
        value("2<2?60:70", 70);
    }

    private static void sums() {
        value("100-20-30", 50);
        value("100-20+30", 110);
        value("2*3*10", 60);
        value("60+2*3", 66);
        value("(60+2)*3", 186);
        value("-2*-30", 60);
        value("--70", 70);
        value("---70+200", 130);
    }

    /** "Brought into -1000000000 .. 1000000000": at the ends, and one beyond; T is ten to the ninth. */
    private static void limits() {
        String t = "100000*10000";
        value(t + "-" + t + "+100", 100);
        value("99999*10000+9999-" + t + "+100", 99);
        value("99999*10000+9999+1-" + t + "+100", 100);
        value(t + "+1-" + t + "+100", 100);
        value("100001*10000-" + t + "+100", 100);
        value("999999*999999-" + t + "+100", 100);
        value("-(" + t + ")-1+" + t + "+100", 100);
        value("0-" + t + "-1+" + t + "+100", 100);
        value("-(99999*10000+9999)+" + t + "+100", 101);
        value("-999999*999999+" + t + "+100", 100);
        value("-999999*-999999-" + t + "+100", 100);
        value("999999*999999*999999*999999-" + t + "+100", 100);
        value("999999*999999*-1+" + t + "+100", 100);
        value("0-999999*999999-999999*999999+" + t + "+100", 100);
    }

    /** "A SET is brought into 50 .. 300 when it is told." */
    private static void sets() {
        value("49", 50);
        value("50", 50);
        value("51", 51);
        value("299", 299);
        value("300", 300);
        value("301", 300);
        value("-1", 50);
        value("999999*999999", 300);
        value("-999999*999999", 50);
        KeptHouse x = new KeptHouse(0L);
        Told.program(x, "s0=50;s9=300;");
        Check.due("200 as it is loaded", x.target(0), 200);
        x.run(1);
        Check.due("the first", x.target(0), 50);
        Check.due("the last", x.target(9), 300);
        Check.due("one between", x.target(8), 200);
    }

    /** "v into 0 .. 9." */
    private static void vents() {
        int[] told = {-1, 0, 1, 8, 9, 10, 999999};
        int[] due = {0, 0, 1, 8, 9, 9, 9};
        for (int i = 0; i < told.length; i++) {
            KeptHouse x = new KeptHouse(0L);
            Told.program(x, "v=" + told[i] + ";");
            Check.due("1 as it is loaded", x.target(13), 1);
            x.run(1);
            Check.due("v=" + told[i], x.target(13), due[i]);
            Check.due("the house's load", x.circuit(10, 0), 20 + 5 * due[i]);
        }
    }

    /** "l, b, p, r and x are 1 unless they are told 0." */
    private static void switches() {
        String[] names = {"l", "b", "p", "r", "x"};
        int[] targets = {10, 11, 12, 14, 15};
        int[] told = {-1, 0, 1, 2};
        for (int i = 0; i < names.length; i++) {
            for (int v : told) {
                KeptHouse x = new KeptHouse(0L);
                Told.program(x, names[i] + "=" + v + ";");
                Check.due("as it is loaded", x.target(targets[i]), i == 3 ? 0 : 1);
                x.run(1);
                Check.due(names[i] + "=" + v, x.target(targets[i]), v == 0 ? 0 : 1);
            }
        }
    }

    /** "The targets (as they are then)": a later statement sees what an earlier one told, as it was brought in. */
    private static void targetsAreAsTheyAreThen() {
        KeptHouse x = new KeptHouse(0L);
        Told.program(x, "s0=999;s1=s0-1;s2=s3;s3=60;v=20;s4=v*10;l=7;s5=l+90;");
        x.run(1);
        Check.due("s1", x.target(1), 299);
        Check.due("s2 comes before s3", x.target(2), 200);
        Check.due("s4", x.target(4), 90);
        Check.due("s5", x.target(5), 91);
        x.run(1);
        Check.due("s2 in the next minute", x.target(2), 60);
    }

    /** "All but the targets are as the minute begins": the tank, the loads, the time, mains. */
    private static void factsAreAsTheMinuteBegins() {
        KeptHouse x = new KeptHouse(Told.seed(0, 20, true));
        x.flat(0, 0, 0);
        x.people(0, 0, 20);
        Told.program(x, "s1=k-1800;s2=e+60;s3=m+60;s4=t+60;s5=h+60;s6=o+100;l=0;b=0;");
        x.weather(0, -40);
        x.run(1);
        Check.due("the tank before its draw", x.target(1), 200);
        Check.due("no loads before any minute", x.target(2), 60);
        Check.due("mains", x.target(3), 61);
        Check.due("time", x.target(4), 60);
        Check.due("hour", x.target(5), 60);
        Check.due("weather", x.target(6), 60);
        x.mains(false);
        x.run(1);
        Check.due("the tank then", x.target(1), 190);
        Check.due("the loads of the latest minute: 325", x.target(2), 300);
        Check.due("no mains", x.target(3), 60);
        Check.due("time then", x.target(4), 61);
        Told.program(x, "s2=e-250;s5=h+60;s4=t-100;");
        x.run(1);
        Check.due("the loads: 300 and 25", x.target(2), 75);
        Told.runTo(x, 240);
        Check.due("hour 23", x.target(5), 83);
        Check.due("t of 239", x.target(4), 139);
        x.run(1);
        Check.due("hour 0", x.target(5), 60);
        Check.due("t of 240 is 0", x.target(4), 50);
    }

    /** w, c and d are "0 without one". */
    private static void namesWithoutAHeart() {
        KeptHouse x = new KeptHouse(0L);
        Told.program(x, "s0=w9+70;s1=c9+70;s2=d9+70;s3=f+70;");
        x.run(1);
        for (int k = 0; k < 4; k++) {
            Check.due("target " + k, x.target(k), 70);
        }
        x.flat(4, 0, 9);
        x.run(1);
        Check.due("now there is one", x.target(0), 70 + 179);
    }

    /** "NONE, if none was, or the latest load() was not"; and when the house begins anew. */
    private static void latestFault() {
        KeptHouse x = new KeptHouse(0L);
        Check.due("none was", x.fault(0), NONE);
        Check.due("no place", x.fault(1), NONE);
        Told.text(x, "q");
        Check.due("before the load", x.fault(0), NONE);
        x.load();
        Check.due("fault", x.fault(0), 3);
        Check.due("place", x.fault(1), 0);
        Told.text(x, "l=!");
        Check.due("still of the latest load", x.fault(0), 3);
        x.load();
        Check.due("the next", x.fault(0), 1);
        Check.due("its place", x.fault(1), 2);
        Told.program(x, "");
        Check.due("the latest was not wrong", x.fault(0), NONE);
        Check.due("no place either", x.fault(1), NONE);
        Told.text(x, "q");
        x.load();
        x.reopen();
        Check.due("anew", x.fault(0), NONE);
        Check.due("anew, the place", x.fault(1), NONE);
    }

    /** "When a program is loaded, each SET is 200, l, b, p, x and v are 1, r is 0." */
    private static void loadedAnew() {
        KeptHouse x = new KeptHouse(0L);
        Told.program(x, "s0=1;s9=1;l=0;b=0;p=0;v=9;r=1;x=0;");
        x.run(1);
        x.load();
        for (int k = 0; k < 16; k++) {
            Check.due("loaded: target " + k, x.target(k), k < 10 ? 200 : k == 14 ? 0 : 1);
        }
        x.run(1);
        x.reopen();
        for (int k = 0; k < 16; k++) {
            Check.due("begun anew: target " + k, x.target(k), k < 10 ? 200 : k == 14 ? 0 : 1);
        }
        x.run(1);
        Check.due("it is loaded again", x.target(14), 1);
    }

    /** "A group with all rows 6": characters 27 and 28, 195, the length; an empty one, too. */
    private static void rowsOfAProgram() {
        KeptHouse x = new KeptHouse(0L);
        Told.text(x, "l=1;" + " ".repeat(188) + "b=2;");
        Check.due("two", x.load(), 2);
        Check.due("eight rows", x.rows(2), 9);
        for (int i = 0; i < 8; i++) {
            Check.due("kind of " + i, x.disk(0, 1 + i, 0), 6);
            Check.due("index of " + i, x.disk(0, 1 + i, 1), i);
            Check.due("last of " + i, x.disk(0, 1 + i, 2), i == 7 ? 1 : 0);
        }
        Check.due("character 0", x.disk(0, 1, 12), 'l');
        Check.due("character 27", x.disk(0, 1, 39), ' ');
        Check.due("character 28", x.disk(0, 2, 12), ' ');
        Check.due("character 195", x.disk(0, 7, 39), ';');
        Check.due("196", x.disk(0, 8, 12), 196);
        Check.due("behind it", x.disk(0, 8, 13), 0);
        x.reopen();
        x.run(1);
        Check.due("kept to its last character", x.target(11), 1);
        Told.program(x, "");
        Check.due("no character", x.disk(0, 9, 12), 0);
        Check.due("length 0", x.disk(0, 16, 12), 0);
        Check.due("seventeen rows", x.rows(2), 17);
    }

    private static void loadIsCut() {
        KeptHouse x = new KeptHouse(0L);
        Told.program(x, "s0=99;");
        for (int n = 0; n < 8; n++) {
            Told.text(x, "s0=88;");
            x.crash(n);
            Check.due("cut behind " + n, x.load(), KeptHouse.CUT);
            x.reopen();
            x.run(1);
            Check.due("as it was", x.target(0), 99);
        }
        Told.text(x, "s0=88;");
        x.crash(8);
        Check.due("just whole", x.load(), 1);
        x.reopen();
        x.run(1);
        Check.due("the new one", x.target(0), 88);
    }

    /** A program has the steps of its own text alone, whatever was loaded before it. */
    private static void oneBehindAnother() {
        KeptHouse x = new KeptHouse(0L);
        for (int flat = 0; flat < 6; flat++) {
            Told.program(x, "s" + flat + "=60;");
            x.run(1);
            for (int k = 0; k < 10; k++) {
                Check.due("program " + flat + ", target " + k, x.target(k), k == flat ? 60 : 200);
            }
        }
        Told.program(x, "");
        x.run(1);
        for (int k = 0; k < 10; k++) {
            Check.due("no program, target " + k, x.target(k), 200);
        }
    }

    /** c: "its STALE by its cells", rounded down: 40, 60, 80, 100 on 48 cells. */
    private static void staleByCells() {
        int[] due = {0, 1, 1, 2};
        for (int i = 0; i < 4; i++) {
            KeptHouse x = new KeptHouse(0L);
            x.flat(0, 0, 0);
            x.people(0, 0, 2 + i);
            Told.program(x, "v=0;b=0;s1=c0+60;");
            x.run(1);
            Check.due("none as the first minute begins", x.target(1), 60);
            Check.due("stale", Told.sum(x, 0, 1), 40 + 20 * i);
            x.run(1);
            Check.due("by 48", x.target(1), 60 + due[i]);
        }
    }

    /** d and f: "1 if it is DETECTED, else 0", as the minute begins: 20 of smoke in a cell, then 60. */
    private static void fireIsKnown() {
        KeptHouse x = new KeptHouse(0L);
        Told.room(x, 2, 9);
        x.flat(2, 9, 4);
        Told.program(x, "b=0;v=0;x=0;s0=d4+70;s1=f+70;s2=d3+70;");
        x.ignite(2, 9);
        int[] due = {70, 70, 71, 71};
        for (int i = 0; i < 4; i++) {
            x.run(1);
            Check.due("d4 in the minute " + i, x.target(0), due[i]);
            Check.due("f in the minute " + i, x.target(1), due[i]);
            Check.due("d3 in the minute " + i, x.target(2), 70);
        }
        x.flat(2, 9, 15);
        x.run(1);
        Check.due("without a flat: d4", x.target(0), 70);
        Check.due("but f", x.target(1), 71);
    }
}
