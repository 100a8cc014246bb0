/** All that can be seen of an object, as one text, to look whether a refused call changed anything. */
final class Snapshot {
    private Snapshot() {
    }

    /** For small pictures and short streams: of an object's 512 calls this takes one for each pixel and byte. */
    static String of(TileForge t) {
        StringBuilder text = new StringBuilder("counts");
        for (int what = 0; what <= 7; what++) {
            text.append(' ').append(t.count(what));
        }
        text.append("\nstream ").append(Streams.bytesOf(t));
        for (int of = 0; of <= 2; of++) {
            text.append("\npicture ").append(of).append(": ").append(pictureOf(t, of));
        }
        text.append("\nmodes ").append(modesOf(t, false)).append('/').append(modesOf(t, true));
        return text.toString();
    }

    private static String pictureOf(TileForge t, int of) {
        if (!has(t, of, 0, 0)) {
            return "none";
        }
        int width = 4;
        while (width < 12 && has(t, of, width, 0)) {
            width += 4;
        }
        int height = 4;
        while (height < 12 && has(t, of, 0, height)) {
            height += 4;
        }
        return width + " by " + height + ": " + Streams.pixelsOf(t, of, width, height);
    }

    private static boolean has(TileForge t, int of, int x, int y) {
        try {
            t.get(of, x, y);
            return true;
        } catch (IllegalStateException | IndexOutOfBoundsException e) {
            return false;
        }
    }

    static String modesOf(TileForge t, boolean reader) {
        StringBuilder text = new StringBuilder();
        for (int k = 0; k < 10; k++) {
            try {
                text.append(t.mode(reader, k));
            } catch (IndexOutOfBoundsException e) {
                text.append('-');
            }
        }
        return text.toString();
    }
}
