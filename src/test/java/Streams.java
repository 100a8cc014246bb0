/** Streams that are put into an object by hand, as texts of the bits 0 and 1. */
final class Streams {
    private Streams() {
    }

    static void load(TileForge t, int... bytes) {
        t.cut(0);
        for (int k = 0; k < bytes.length; k++) {
            t.damage(k, bytes[k]);
        }
    }

    /** The head, then the bits (spaces do not count), the last byte filled up with 0. */
    static TileForge of(int across, int down, int q, String bits) {
        TileForge t = new TileForge();
        load(t, across, down, q);
        StringBuilder all = new StringBuilder(bits.replace(" ", ""));
        while (all.length() % 8 != 0) {
            all.append('0');
        }
        for (int i = 0; i < all.length(); i += 8) {
            t.damage(3 + i / 8, Integer.parseInt(all.substring(i, i + 8), 2));
        }
        return t;
    }

    static String number(int value, int bits) {
        StringBuilder text = new StringBuilder();
        for (int i = bits - 1; i >= 0; i--) {
            text.append((value >> i) & 1);
        }
        return text.toString();
    }

    static String ones(int howMany) {
        return "1".repeat(howMany);
    }

    static String bytesOf(TileForge t) {
        StringBuilder text = new StringBuilder();
        int length = t.stream(-1);
        for (int k = 0; k < length; k++) {
            text.append(k == 0 ? "" : " ").append(t.stream(k));
        }
        return text.toString();
    }

    static String pixelsOf(TileForge t, int of, int width, int height) {
        StringBuilder text = new StringBuilder();
        for (int y = 0; y < height; y++) {
            for (int x = 0; x < width; x++) {
                text.append(x + y == 0 ? "" : " ").append(t.get(of, x, y));
            }
        }
        return text.toString();
    }
}
