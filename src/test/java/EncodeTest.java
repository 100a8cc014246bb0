/** Promise 5, and 12 and 13 as far as they are about the coder; each stream here was worked out by hand. */
public final class EncodeTest {
    public static void main(String[] args) {
        blackBlock();
        greyBlock();
        modesWithoutNeighbours();
        modesWithNeighbours();
        meanOfOneSide();
        cornerWithoutColumn();
        clippedForetelling();
        levelsAndTheirOrder();
        coarseLevels();
        codesAdapt();
        latestEncodeCounts();
        encodeRefuses();
        Due.end();
    }

    /** MODE 1 foretells 127; 16 * -127 is the one level, u 4064; k is 3, 4064 >> 3 above 11. */
    private static void blackBlock() {
        TileForge t = new TileForge();
        Due.same("black: encode(0)", 8, t.encode(0));
        Due.same("black: bytes", "1 1 0 67 255 231 240 0", Streams.bytesOf(t));
        Due.same("black: mode", 1, t.mode(false, 0));
        Due.same("black: bits", 57, t.count(2));
        Due.same("black: levels", 1, t.count(3));
        Due.same("black: greatest", 2032, t.count(4));
        Due.same("black: apart", 0.0, t.apart(0, 1));
    }

    private static void greyBlock() {
        TileForge t = new TileForge();
        t.fill(0, 0, 128, 0, 0);
        Due.same("grey: encode(5)", 4, t.encode(5));
        Due.same("grey: bytes", "1 1 5 0", Streams.bytesOf(t));
        Due.same("grey: bits", 31, t.count(2));
        Due.same("grey: levels", 0, t.count(3));
        Due.same("grey: greatest", 0, t.count(4));
        Due.badIndex("grey: mode of block 1", () -> t.mode(false, 1));
        Due.badIndex("grey: mode of block -1", () -> t.mode(false, -1));
        Due.badIndex("grey: mode of the reader", () -> t.mode(true, 0));
    }

    /** 128, 127, 129 and 129 are foretold: modes 2 and 3 tie for white. */
    private static void modesWithoutNeighbours() {
        int[] values = {127, 128, 129, 0, 255};
        int[] modes = {1, 0, 2, 1, 2};
        for (int i = 0; i < values.length; i++) {
            TileForge t = new TileForge();
            t.fill(0, 0, values[i], 0, 0);
            t.encode(0);
            Due.same("mode for " + values[i], modes[i], t.mode(false, 0));
        }
    }

    private static void modesWithNeighbours() {
        TileForge t = new TileForge();
        t.size(8, 8);
        t.fill(0, 0, 100, 10, 0);
        t.encode(0);
        Due.same("rows alike: block 2 is that above", 1, t.mode(false, 2));
        Due.same("rows alike: block 3 is that above", 1, t.mode(false, 3));
        t.fill(0, 0, 100, 0, 10);
        t.encode(0);
        Due.same("columns alike: block 1 is that to the left", 2, t.mode(false, 1));
        Due.same("columns alike: block 3 is that to the left", 2, t.mode(false, 3));
        t.fill(0, 0, 20, 10, 10);
        t.encode(0);
        Due.same("a slope: block 3 is left and above less corner", 3, t.mode(false, 3));
        t.fill(0, 0, 60, 0, 0);
        t.encode(0);
        Due.same("one colour: of several the least", 0, t.mode(false, 3));
        Due.badIndex("mode of block 4", () -> t.mode(false, 4));
    }

    /** The block to the left ends in 10 11 13 12: (46 + 2) / 4 is 12 and not 11. */
    private static void meanOfOneSide() {
        TileForge t = new TileForge();
        t.size(8, 4);
        int[] ends = {10, 11, 13, 12};
        for (int y = 0; y < 4; y++) {
            t.pixel(3, y, ends[y]);
        }
        t.fill(4, 0, 12, 0, 0);
        t.encode(0);
        Due.same("mean of the left alone", 0, t.mode(false, 1));
        Due.same("mean of the left alone: no level", 24 + 7 + bitsOfFirstBlock(ends) + 7, t.count(2));
        TileForge high = new TileForge();
        high.size(4, 8);
        for (int x = 0; x < 4; x++) {
            high.pixel(x, 3, ends[x]);
        }
        high.fill(0, 4, 12, 0, 0);
        high.encode(0);
        Due.same("mean of above alone", 0, high.mode(false, 1));
    }

    private static int bitsOfFirstBlock(int[] ends) {
        TileForge t = new TileForge();
        for (int y = 0; y < 4; y++) {
            t.pixel(3, y, ends[y]);
        }
        t.encode(0);
        return t.count(2) - 31;
    }

    /** Block 1 stands under block 0 without a column before it: LEFT 129 and CORNER 129, so MODE 3 is MODE 1. */
    private static void cornerWithoutColumn() {
        TileForge t = Streams.of(1, 2, 0, "01 00000  11 00000");
        Due.same("corner without a column: decode", 2, t.decode());
        Due.same("corner without a column", 127, t.get(2, 2, 6));
        TileForge wide = Streams.of(2, 1, 0, "10 00000  11 00000");
        wide.decode();
        Due.same("corner without a row", 129, wide.get(2, 6, 2));
        TileForge first = Streams.of(1, 1, 0, "11 00000");
        first.decode();
        Due.same("corner without both", 129, first.get(2, 3, 3));
    }

    private static void clippedForetelling() {
        TileForge t = new TileForge();
        t.size(8, 8);
        t.fill(0, 0, 0, 0, 0);
        t.fill(4, 0, 250, 0, 0);
        t.fill(0, 4, 250, 0, 0);
        t.fill(4, 4, 255, 0, 0);
        t.encode(0);
        Due.same("250 + 250 - 0 is clipped to 255", 3, t.mode(false, 3));
        Due.same("clipped: alike", 0.0, t.apart(0, 1));
    }

    /**
     * 128 throughout but for 132 at the place 1, 0: MODE 0, what is left is a 4 there. The first row becomes
     * 4 4 -4 -4, and each column is that number four times: u 7 7 8 8 in each row.
     */
    private static void levelsAndTheirOrder() {
        TileForge t = new TileForge();
        t.fill(0, 0, 128, 0, 0);
        t.pixel(1, 0, 132);
        t.encode(0);
        Due.same("order: mode", 0, t.mode(false, 0));
        Due.same("order: levels", 16, t.count(3));
        Due.same("order: greatest", 4, t.count(4));
        // The first k is 3 by its own count; the others' means stay at 4 to 8, so k is 3 for all.
        String row = "0111 0111 10000 10000 ";
        TileForge hand = Streams.of(1, 1, 0, "00 10000 " + row + row + row + row);
        Due.same("order: bytes", Streams.bytesOf(hand), Streams.bytesOf(t));
        Due.same("order: bits", 24 + 7 + 4 * 18, t.count(2));
    }

    /** With STEP 8 a 4 becomes (4 + 4) / 8, 1; with 16 it is (4 + 8) / 16, 0. */
    private static void coarseLevels() {
        TileForge t = new TileForge();
        t.fill(0, 0, 128, 0, 0);
        t.pixel(1, 0, 132);
        t.encode(3);
        Due.same("coarse: greatest", 1, t.count(4));
        Due.same("coarse: levels", 16, t.count(3));
        // Back: 8 in all 16 places with signs gives 8 * 16 at one place: (128 + 8) >> 4 is 8.
        Due.same("coarse: the pixel", 136, t.get(1, 1, 0));
        Due.same("coarse: another", 128, t.get(1, 0, 0));
        Due.same("coarse: apart", 1.0, t.apart(0, 1));
        t.encode(4);
        Due.same("coarser: no level", 0, t.count(3));
        Due.same("coarser: bytes", "1 1 4 0", Streams.bytesOf(t));
        Due.same("coarser: the pixel", 128, t.get(1, 1, 0));
    }

    /** Three blocks, each 15 lighter than what is foretold: one level each, the first of its block, u 479. */
    private static void codesAdapt() {
        TileForge t = new TileForge();
        t.size(12, 4);
        t.fill(0, 0, 144, 0, 0);
        t.fill(4, 0, 159, 0, 0);
        t.fill(8, 0, 174, 0, 0);
        t.encode(0);
        // SUM 8, N 1: k 3, 479 >> 3 is 59, so the long form. SUM 487, N 2: k 8, 479 >> 8 is 1.
        // SUM 966, N 3: 3 << 8 is 768, still below: k 9, 479 >> 9 is 0.
        String hand = "10 00001 " + Streams.ones(12) + Streams.number(479, 14)
                + "00 00001 10 " + Streams.number(479 & 255, 8)
                + "00 00001 0 " + Streams.number(479, 9);
        Due.same("adapt: bytes", Streams.bytesOf(Streams.of(3, 1, 0, hand)), Streams.bytesOf(t));
        Due.same("adapt: bits", 24 + 33 + 17 + 17, t.count(2));
        Due.same("adapt: levels", 3, t.count(3));
    }

    private static void latestEncodeCounts() {
        TileForge t = new TileForge();
        t.encode(0);
        t.fill(0, 0, 128, 0, 0);
        t.encode(0);
        Due.same("latest: bits", 31, t.count(2));
        Due.same("latest: levels", 0, t.count(3));
        Due.same("latest: greatest", 0, t.count(4));
        Due.same("latest: stream", "1 1 0 0", Streams.bytesOf(t));
        Due.same("latest: copy", 128, t.get(1, 3, 3));
        Due.same("no decode yet", 0, t.count(7));
        Due.badState("no result yet", () -> t.get(2, 0, 0));
        t.size(8, 12);
        Due.same("encode does not need the old size", 6, t.size(8, 12));
        t.encode(1);
        Due.same("the new head", "2 3 1", t.stream(0) + " " + t.stream(1) + " " + t.stream(2));
        Due.same("the new copy", 0, t.get(1, 7, 11));
    }

    private static void encodeRefuses() {
        TileForge t = new TileForge();
        t.encode(2);
        String before = Streams.bytesOf(t) + " " + t.count(2) + " " + t.count(3) + " " + t.count(4);
        t.fill(0, 0, 99, 3, 3);
        int[] bad = {-1, 6, Integer.MIN_VALUE, Integer.MAX_VALUE};
        for (int q : bad) {
            Due.badArgument("encode(" + q + ")", () -> t.encode(q));
        }
        String after = Streams.bytesOf(t) + " " + t.count(2) + " " + t.count(3) + " " + t.count(4);
        Due.same("a refused encode changes nothing", before, after);
        Due.badArgument("count(-1)", () -> t.count(-1));
        Due.badArgument("count(8)", () -> t.count(8));
        Due.badArgument("count, far", () -> t.count(Integer.MIN_VALUE));
    }
}
