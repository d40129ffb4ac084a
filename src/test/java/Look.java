/** All that can be asked of a house in a few hundred calls, as one text: two houses are compared by it. */
final class Look {
    private final KeptHouse x;
    private final StringBuilder seen = new StringBuilder();

    private Look(KeptHouse house) {
        x = house;
    }

    /** The text and the reel of the house are empty then, and ten minutes more have gone. */
    static String at(KeptHouse house) {
        Look look = new Look(house);
        look.plan();
        look.minutes();
        look.accessAndCare();
        look.durable();
        house.run(10);
        look.minutes();
        return look.seen.toString();
    }

    private void see(long v) {
        seen.append(v).append(' ');
    }

    private void plan() {
        see(x.version());
        see(x.spaces());
        for (int desk = 0; desk < 3; desk++) {
            for (int e : new int[] {0, 1, 4, 109}) {
                see(x.draft(desk, 0, e));
            }
            see(x.conflict(desk, 0));
        }
        see(x.edge(0, 1));
        see(x.edge(0, 4));
    }

    private void minutes() {
        for (int k = 0; k < 16; k++) {
            see(x.target(k));
        }
        see(x.fault(0));
        see(x.fault(1));
        for (int what = 0; what < 11; what++) {
            see(x.state(what));
        }
        for (int what = 0; what < 6; what++) {
            see(x.circuit(0, what));
            see(x.circuit(10, what));
            see(x.cell(0, 0, what));
            see(x.cell(4, 47, what));
        }
        see(x.alarms());
        for (int what = 0; what < 4; what++) {
            see(x.money(what));
            see(x.part(0, what));
            see(x.part(2, what));
        }
    }

    private void accessAndCare() {
        see(x.inside(0));
        see(x.inside(x.spaces() - 1));
        see(x.place(0));
        see(x.log(0, 0));
        see(x.log(0, 1));
        see(x.log(0, 2));
        see(x.log(0, 3));
        see(x.trend(0, 0));
        see(x.tickets());
        for (int what = 0; what < 6; what++) {
            see(x.ticketOf(0, what));
        }
        for (int what = 0; what < 4; what++) {
            see(x.worker(0, what));
            see(x.worker(1, what));
        }
    }

    /** The sum at an image's end tells of all its bytes; the reel is looked at first, as it is copied to. */
    private void durable() {
        see(x.isDown() ? 1 : 0);
        for (int what = 0; what < 4; what++) {
            see(x.rows(what));
        }
        for (int i = 0; i < 48; i++) {
            see(x.disk(x.rows(0), x.rows(2) - 1, i));
        }
        int length = x.copy();
        see(length);
        if (length > 0) {
            see(x.poke(length - 1, 0));
        }
        see(x.empty());
        int end = x.image();
        see(end);
        for (int i = 1; i <= 4; i++) {
            see(x.tape(end - i));
        }
        see(x.wipe());
    }
}
