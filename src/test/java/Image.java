import java.util.ArrayList;
import java.util.List;
import java.util.zip.CRC32;

/** An image that a test puts together by itself, to feed it to a house. */
final class Image {
    private final List<int[]> keys = new ArrayList<>();

    /** A key with its first bytes; the others are 0. */
    Image key(int kind, int index, int... bytes) {
        int[] all = new int[30];
        all[0] = kind;
        all[1] = index;
        System.arraycopy(bytes, 0, all, 2, bytes.length);
        keys.add(all);
        return this;
    }

    /** The keys of another image behind these. */
    Image with(Image other) {
        keys.addAll(other.keys);
        return this;
    }

    int[] bytes() {
        int[] all = new int[6 + 30 * keys.size()];
        all[0] = keys.size() % 256;
        all[1] = keys.size() / 256;
        for (int i = 0; i < keys.size(); i++) {
            System.arraycopy(keys.get(i), 0, all, 2 + 30 * i, 30);
        }
        seal(all);
        return all;
    }

    /** Writes the right sum behind the bytes. */
    static void seal(int[] all) {
        CRC32 sum = new CRC32();
        for (int i = 0; i < all.length - 4; i++) {
            sum.update(all[i]);
        }
        for (int i = 0; i < 4; i++) {
            all[all.length - 4 + i] = (int) (sum.getValue() >> 8 * i) & 255;
        }
    }

    void feed(KeptHouse x) {
        feed(x, bytes());
    }

    static void feed(KeptHouse x, int[] all) {
        x.empty();
        for (int b : all) {
            x.feed(b);
        }
    }

    /** Numbers of several bytes, the lowest first, one behind the other. */
    static int[] numbers(int size, long... values) {
        int[] all = new int[size * values.length];
        for (int i = 0; i < values.length; i++) {
            for (int j = 0; j < size; j++) {
                all[size * i + j] = (int) (values[i] >> 8 * j) & 255;
            }
        }
        return all;
    }

    static int[] join(int[]... parts) {
        int n = 0;
        for (int[] part : parts) {
            n += part.length;
        }
        int[] all = new int[n];
        n = 0;
        for (int[] part : parts) {
            System.arraycopy(part, 0, all, n, part.length);
            n += part.length;
        }
        return all;
    }
}
