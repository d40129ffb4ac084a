/** Promises 21 to 25: the program. */
public final class ProgramTest {
    public static void main(String[] args) {
        typing();
        loading();
        faults();
        depths();
        statements();
        values();
        names();
        wrongArguments();
        Check.end();
    }

    private static void type(KeptHouse x, String text) {
        x.wipe();
        for (int i = 0; i < text.length(); i++) {
            x.type(text.charAt(i));
        }
    }

    private static String times(String text, int n) {
        return text.repeat(n);
    }

    private static void typing() {
        KeptHouse x = new KeptHouse(0L);
        Check.due("first", x.type(' '), 1);
        Check.due("second", x.type('~'), 2);
        Check.due("wipe", x.wipe(), 2);
        Check.due("wipe nothing", x.wipe(), 0);
        for (int i = 0; i < 195; i++) {
            x.type(' ');
        }
        Check.due("196", x.type(';'), 196);
        Check.illegalState("full", () -> x.type(' '));
        Check.illegalArgument("first its bounds", () -> x.type(127));
        x.reopen();
        Check.due("empty anew", x.wipe(), 0);
    }

    private static void loading() {
        KeptHouse x = new KeptHouse(0L);
        Check.due("an empty program", x.load(), 0);
        Check.due("eight rows", x.rows(2), 9);
        type(x, " s0 = 210 ; v=3;r=1;");
        Check.due("three", x.load(), 3);
        Check.due("the text stays", x.type(' '), 21);
        Check.due("kind", x.disk(0, 9, 0), 6);
        Check.due("first character", x.disk(0, 9, 12), ' ');
        Check.due("second character", x.disk(0, 9, 13), 's');
        Check.due("row of the length", x.disk(0, 16, 1), 7);
        Check.due("length", x.disk(0, 16, 12), 20);
        Check.due("not yet", x.target(0), 200);
        x.run(1);
        Check.due("set", x.target(0), 210);
        Check.due("vents", x.target(13), 3);
        Check.due("release", x.target(14), 1);
        x.reopen();
        Check.due("targets anew", x.target(0), 200);
        Check.due("no release", x.target(14), 0);
        x.run(1);
        Check.due("the program is loaded", x.target(0), 210);
        type(x, "");
        Check.due("none again", x.load(), 0);
        Check.due("targets when loaded", x.target(0), 200);
        Check.due("vents when loaded", x.target(13), 1);
        x.run(1);
        Check.due("nothing is told", x.target(13), 1);
        x.crash(7);
        Check.due("cut", x.load(), KeptHouse.CUT);
    }

    private static void fault(KeptHouse x, String text, int fault, int place) {
        type(x, text);
        Check.due("load of " + text, x.load(), KeptHouse.WRONG);
        Check.due("fault of " + text, x.fault(0), fault);
        Check.due("place in " + text, x.fault(1), place);
    }

    private static void good(KeptHouse x, String text, int statements) {
        type(x, text);
        Check.due("load of " + text, x.load(), statements);
        Check.due("no fault of " + text, x.fault(0), KeptHouse.NONE);
        Check.due("no place in " + text, x.fault(1), KeptHouse.NONE);
    }

    private static void faults() {
        KeptHouse x = new KeptHouse(0L);
        Check.due("none at first", x.fault(0), KeptHouse.NONE);
        Check.due("no place at first", x.fault(1), KeptHouse.NONE);
        fault(x, "l=1;#", 1, 4);
        fault(x, "l=1_;", 1, 3);
        fault(x, "l==1;", 2, 2);
        fault(x, "l=", 2, 2);
        fault(x, "l=1  ", 2, 5);
        fault(x, "1=1;", 2, 0);
        fault(x, ";", 2, 0);
        fault(x, "l 1;", 2, 2);
        fault(x, "l=1 m;", 2, 4);
        fault(x, "l=1 Q;", 2, 4);
        fault(x, "l=12ab;", 2, 4);
        fault(x, "l=1<2<3;", 2, 5);
        fault(x, "l=(1;", 2, 4);
        fault(x, "l=m?1;", 2, 5);
        fault(x, "l=+1;", 2, 2);
        fault(x, "w0=1;", 3, 0);
        fault(x, "s=1;", 3, 0);
        fault(x, "s10=1;", 3, 0);
        fault(x, "L=1;", 3, 0);
        fault(x, "l=s;", 3, 2);
        fault(x, "l=w00;", 3, 2);
        fault(x, "l=1+xx*2;", 3, 4);
        fault(x, "l=1234567;", 4, 2);
        fault(x, "1234567", 4, 0);
        fault(x, "l=1 1234567;", 4, 4);
        good(x, "l=123456;", 1);
        fault(x, "q", 3, 0);
        x.reopen();
        Check.due("none anew", x.fault(0), KeptHouse.NONE);
    }

    private static void depths() {
        KeptHouse x = new KeptHouse(0L);
        good(x, "l=" + times("(", 10) + "1" + times(")", 10) + ";", 1);
        fault(x, "l=" + times("(", 11) + "1" + times(")", 11) + ";", 5, 12);
        good(x, "l=" + times("-", 10) + "1;", 1);
        fault(x, "l=" + times("-", 11) + "1;", 5, 12);
        good(x, "l=" + times("m?1:", 10) + "1;", 1);
        fault(x, "l=" + times("m?1:", 11) + "1;", 5, 2 + 40 + 1);
        fault(x, "l=" + times("(-", 5) + "(1", 5, 12);
        fault(x, "l=" + times("(", 10) + "m?1:0", 5, 13);
        // The last - has its factor alone within it: ? stands within five ( and four -.
        fault(x, "l=" + times("(-", 5) + "m?1:0;", 2, 17);
        fault(x, "l=" + times("(", 10) + "1-1-(", 5, 16);
        good(x, "l=" + times("(", 10) + "1-1-1" + times(")", 10) + "-(1);", 1);
        // What cannot be there is looked at before the depth.
        fault(x, "l=" + times("(", 10) + "1(", 2, 13);
    }

    private static void statements() {
        KeptHouse x = new KeptHouse(0L);
        good(x, times("l=1;", 12), 12);
        fault(x, times("l=1;", 13), 6, 48);
        fault(x, times("l=1;", 12) + " ;", 6, 49);
        fault(x, times("l=1;", 12) + "qq", 6, 48);
        fault(x, times("l=1;", 12) + "#", 1, 48);
        fault(x, times("l=1;", 12) + "1234567", 4, 48);
        good(x, times("l=1;", 12) + "  ", 12);
    }

    /** Runs one minute of a program: what the set of flat 0 is then. */
    private static void set(String expression, int want) {
        KeptHouse x = new KeptHouse(0L);
        type(x, "s0=" + expression + ";");
        Check.due("load of " + expression, x.load(), 1);
        x.run(1);
        Check.due("s0=" + expression, x.target(0), want);
    }

    private static void values() {
        set("0", 50);
        set("999999", 300);
        set("2+3*40", 122);
        set("(2+3)*40", 200);
        set("300-100-50", 150);
        set("1<2?60:70", 60);
        set("1>2?60:70", 70);
        set("2>2?60:70", 70);
        set("1?2>1?61:62:63", 61);
        set("0?60:0?70:80", 80);
        set("100+(3<4)", 101);
        set("100--3", 103);
        set("100-(-3)", 103);
        set("-5*-20", 100);
        set("-(5)<-4?71:72", 71);
        // Each operation is brought into its bounds: 10^9 - 10^9 + 77.
        set("999999*999999-999999*1000-1000*1+77", 77);
        set("-(999999*999999)+999999*999999+88", 88);
        set("s0+1", 201);
        targets();
    }

    private static void targets() {
        KeptHouse x = new KeptHouse(0L);
        type(x, "v=99;l=0;b=-5;p=7;r=2;x=0;s9=v*10;s8=l+60;");
        Check.due("eight", x.load(), 8);
        x.run(1);
        long[] want = {200, 200, 200, 200, 200, 200, 200, 200, 60, 90, 0, 1, 1, 9, 1, 0};
        for (int k = 0; k < 16; k++) {
            Check.due("target " + k, x.target(k), want[k]);
        }
        type(x, "v=-3;");
        x.load();
        x.run(1);
        Check.due("vents at least 0", x.target(13), 0);
        Check.due("lamps when loaded", x.target(10), 1);
    }

    private static void names() {
        KeptHouse x = new KeptHouse(0L);
        x.flat(0, 0, 4);
        x.weather(2, 123);
        type(x, "s0=w4;s1=w5+60;s2=o;s3=h+100;s4=t+100;s5=k-1800;s6=e+100;s7=m+100;s8=f+100;s9=d4+c4+100;");
        Check.due("ten", x.load(), 10);
        x.run(21);
        // The minute that began at time 20: hour 2, and the load is that of the minute before it.
        // It lost 504 of 864000 in the first minute, and so on: no boiler, since its set is lower.
        Check.due("warmth", x.target(0), 177);
        Check.due("no heart", x.target(1), 60);
        Check.due("weather", x.target(2), 123);
        Check.due("hour", x.target(3), 102);
        Check.due("time", x.target(4), 120);
        Check.due("tank", x.target(5), 200);
        Check.due("load", x.target(6), 125);
        Check.due("mains", x.target(7), 101);
        Check.due("no fire", x.target(8), 100);
        Check.due("no smoke, no stale air", x.target(9), 100);
        x.mains(false);
        x.run(1);
        Check.due("no mains", x.target(7), 100);
        fireNames();
    }

    private static void fireNames() {
        KeptHouse x = new KeptHouse(0L);
        x.flat(1, 0, 0);
        x.people(0, 0, 20);
        type(x, "x=0;v=0;s0=c0+100;s1=d0+100;s2=f+100;s3=d1+100;");
        x.load();
        for (int cell = 0; cell < 48; cell++) {
            x.ignite(1, cell);
        }
        x.run(1);
        Check.due("as the minute begins", x.target(2), 100);
        x.run(2);
        // Two minutes of 400 stale air on 48 cells; 20 of smoke, and 40 more.
        Check.due("stale", x.target(0), 116);
        Check.due("detected", x.target(1), 101);
        Check.due("some space", x.target(2), 101);
        Check.due("a flat without heart", x.target(3), 100);
    }

    private static void wrongArguments() {
        KeptHouse x = new KeptHouse(0L);
        Check.illegalArgument("type 31", () -> x.type(31));
        Check.illegalArgument("type 127", () -> x.type(127));
        Check.illegalArgument("type -1", () -> x.type(-1));
        Check.illegalArgument("fault -1", () -> x.fault(-1));
        Check.illegalArgument("fault 2", () -> x.fault(2));
        Check.illegalArgument("target -1", () -> x.target(-1));
        Check.illegalArgument("target 16", () -> x.target(16));
    }
}
