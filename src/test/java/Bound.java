/** A number's bounds in a call: both ends are taken, all beyond them is an illegal argument. */
final class Bound {
    private Bound() {
    }

    /** A call that is made with one number after the other. */
    interface Taking {
        void take(int v);
    }

    static void of(String what, int least, int most, Taking call) {
        beyond(what, least, most, call);
        taken(what, least, call);
        taken(what, most, call);
    }

    /** What is beyond is tried first, so that a legal call can't hide what an illegal one did. */
    private static void beyond(String what, int least, int most, Taking call) {
        for (int v : new int[] {least - 1, Integer.MIN_VALUE}) {
            Check.illegalArgument(what + " " + v, () -> call.take(v));
        }
        for (int v : new int[] {most + 1, Integer.MAX_VALUE}) {
            Check.illegalArgument(what + " " + v, () -> call.take(v));
        }
    }

    /** A bound below alone. */
    static void from(String what, int least, Taking call) {
        Check.illegalArgument(what + " " + (least - 1), () -> call.take(least - 1));
        Check.illegalArgument(what + " far below", () -> call.take(Integer.MIN_VALUE));
        taken(what, least, call);
        taken(what, Integer.MAX_VALUE, call);
    }

    private static void taken(String what, int v, Taking call) {
        Check.taken(what + " " + v, () -> call.take(v));
    }
}
