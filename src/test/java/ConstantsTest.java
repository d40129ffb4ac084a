/** The constants of the face. */
public final class ConstantsTest {
    public static void main(String[] args) {
        boolean good = KeptHouse.NONE == -1 && KeptHouse.CUT == -1001 && KeptHouse.MANY == -1002
                && KeptHouse.FULL == -1003 && KeptHouse.WRONG == -1004;
        if (!good) {
            System.out.println("a constant is not the one due");
            System.exit(1);
        }
    }
}
