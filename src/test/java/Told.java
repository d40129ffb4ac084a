/** What several tests tell a house before they look at it. */
final class Told {
    private Told() {
    }

    static void program(KeptHouse x, String text) {
        text(x, text);
        Check.due("load of " + text, x.load() >= 0, true);
    }

    static void people(KeptHouse x, int flat, int n) {
        for (int hour = 0; hour < 24; hour++) {
            x.people(flat, hour, n);
        }
    }

    static void weather(KeptHouse x, int v) {
        for (int hour = 0; hour < 24; hour++) {
            x.weather(hour, v);
        }
    }

    static void runTo(KeptHouse x, int time) {
        while (x.state(10) < time) {
            x.run(Math.min(120, time - x.state(10)));
        }
    }

    /** The text is typed into an empty one, and not loaded. */
    static void text(KeptHouse x, String text) {
        x.wipe();
        for (int i = 0; i < text.length(); i++) {
            x.type(text.charAt(i));
        }
    }

    /** What all cells of a storey have together. */
    static long sum(KeptHouse x, int storey, int what) {
        long sum = 0;
        for (int cell = 0; cell < 48; cell++) {
            sum += x.cell(storey, cell, what);
        }
        return sum;
    }

    /** Cuts the cell out of its storey by LIGHT walls (those at the border stay as they are). */
    static void room(KeptHouse x, int storey, int cell) {
        int edge = cell / 8 * 9 + cell % 8;
        x.take(0);
        x.edit(0, storey, edge, 2, 1, 1);
        x.edit(0, storey, 54 + cell, 2, 8, 1);
        x.merge(0);
    }

    /** The draw of a flat, written down here anew from the document. */
    static int draw(long seed, int time, int flat) {
        long z = seed + 0x9E3779B97F4A7C15L * (16L * time + flat + 1);
        z = (z ^ (z >>> 30)) * 0xBF58476D1CE4E5B9L;
        z = (z ^ (z >>> 27)) * 0x94D049BB133111EBL;
        z = z ^ (z >>> 31);
        return (int) ((z >>> 33) % 100);
    }

    /** A seed with which a flat of n people draws, or does not, in the first minute. */
    static long seed(int flat, int n, boolean draws) {
        for (long seed = 0; seed < 100000; seed++) {
            if (draw(seed, 0, flat) < 4 * n == draws) {
                return seed;
            }
        }
        throw new IllegalStateException("no such seed");
    }
}
