/** Streams that are put into an object by hand, as texts of the bits 0 and 1. */
final class Streams {
    private Streams() {
    }

    static void load(TileForge t, int... bytes) {
        t.cut(0);
        for (int k = 0; k < bytes.length; k++) {
            t.damage(k, bytes[k]);
        }
    }

    /** The head, then the bits (spaces do not count), the last byte filled up with 0. */
    static TileForge of(int across, int down, int q, String bits) {
        TileForge t = new TileForge();
        put(t, across, down, q, bits);
        return t;
    }

    static void put(TileForge t, int across, int down, int q, String bits) {
        load(t, across, down, q);
        StringBuilder all = new StringBuilder(bits.replace(" ", ""));
        while (all.length() % 8 != 0) {
            all.append('0');
        }
        for (int i = 0; i < all.length(); i += 8) {
            t.damage(3 + i / 8, Integer.parseInt(all.substring(i, i + 8), 2));
        }
    }

    static String number(int value, int bits) {
        StringBuilder text = new StringBuilder();
        for (int i = bits - 1; i >= 0; i--) {
            text.append((value >> i) & 1);
        }
        return text.toString();
    }

    static String ones(int howMany) {
        return "1".repeat(howMany);
    }

    /** The number u with k low bits, in the form that the document asks for. */
    static String code(int u, int k) {
        return u >> k >= 12 ? ones(12) + number(u, 14) : ones(u >> k) + "0" + number(u, k);
    }

    /** The bits of the latest encode, the filling of the last byte left out. */
    static String bitsOf(TileForge t) {
        StringBuilder text = new StringBuilder();
        int length = t.stream(-1);
        for (int k = 0; k < length; k++) {
            text.append(number(t.stream(k), 8));
        }
        return text.substring(24, t.count(2));
    }

    static String bytesOf(TileForge t) {
        StringBuilder text = new StringBuilder();
        int length = t.stream(-1);
        for (int k = 0; k < length; k++) {
            text.append(k == 0 ? "" : " ").append(t.stream(k));
        }
        return text.toString();
    }

    static String pixelsOf(TileForge t, int of, int width, int height) {
        StringBuilder text = new StringBuilder();
        for (int y = 0; y < height; y++) {
            for (int x = 0; x < width; x++) {
                text.append(x + y == 0 ? "" : " ").append(t.get(of, x, y));
            }
        }
        return text.toString();
    }
}
