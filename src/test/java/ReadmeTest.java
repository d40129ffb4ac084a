/** The example in README.md, with the answers that it tells. */
public final class ReadmeTest {
    public static void main(String[] args) {
        KeptHouse house = new KeptHouse(42L);
        draw(house);
        tell(house);
        live(house);
        fail(house);
        carryOver(house);
        Check.end();
    }

    private static void draw(KeptHouse house) {
        Check.due("edges that are others", house.edit(0, 0, 4, 6, 9, 1), 6);
        Check.due("the new version", house.merge(0), 1);
        Check.due("spaces", house.spaces(), 6);
    }

    private static void tell(KeptHouse house) {
        Check.due("the flat before", house.flat(0, 0, 3), 15);
        Check.due("the people before", house.people(3, 0, 2), 0);
        Check.due("the rating before", house.rate(3, 200, 1), 100);
        for (char c : "s3 = h<7 ? 180 : 210;".toCharArray()) {
            house.type(c);
        }
        Check.due("statements", house.load(), 1);
    }

    private static void live(KeptHouse house) {
        Check.due("the time", house.run(10), 10);
        Check.due("the set of flat 3", house.target(3), 180);
        Check.due("the load of its circuit", house.circuit(3, 0), 174);
        Check.due("its power", house.meter(3, 1), 1740);
        Check.illegalArgument("no such flat", () -> house.people(10, 0, 2));
    }

    private static void fail(KeptHouse house) {
        house.crash(0);
        Check.due("cut", house.people(3, 1, 2), KeptHouse.CUT);
        Check.due("down", house.isDown(), true);
        Check.illegalState("nothing can be asked", house::spaces);
        Check.due("rows that count", house.reopen(), 13);
        Check.due("the walls are kept", house.spaces(), 6);
        Check.due("no day had ended", house.state(10), 0);
    }

    private static void carryOver(KeptHouse house) {
        Check.due("bytes of the tape", house.image(), 396);
        Check.due("bytes of the reel", house.copy(), 396);
        Check.due("put in", house.put(), 0);
        Check.due("the other area is in use", house.rows(0), 1);
    }
}
