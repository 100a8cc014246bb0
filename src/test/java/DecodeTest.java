/** Promise 6, and 12 and 13 as far as they are about the reader; each stream here was worked out by hand. */
public final class DecodeTest {
    private static final String LONG = Streams.ones(12);

    public static void main(String[] args) {
        badStreams();
        badChangesNothing();
        emptyBlocks();
        endedInEachPart();
        tooManyLevels();
        greatestU();
        greatestUInTheShortForm();
        longFormOfSmallNumbers();
        zeroLevelsAdapt();
        halvedAtSixteen();
        twoCounts();
        whatComesBehindTheEnd();
        bitsBehindTheLastBlock();
        latestDecodeCounts();
        levelsBecomePixels();
        Due.end();
    }

    private static void badStreams() {
        int[][] bad = {{}, {1}, {1, 1}, {0, 1, 0}, {4, 1, 0}, {1, 0, 0}, {1, 4, 0}, {1, 1, 6}, {255, 1, 0}, {1, 255, 0},
            {1, 1, 255}, {65, 1, 0, 0}};
        for (int[] bytes : bad) {
            TileForge t = new TileForge();
            Streams.load(t, bytes);
            Due.unsupported("decode of " + Streams.bytesOf(t), () -> t.decode());
            Due.badState("no result of " + Streams.bytesOf(t), () -> t.get(2, 0, 0));
        }
        for (int across = 1; across <= 3; across++) {
            for (int down = 1; down <= 3; down++) {
                for (int q = 0; q <= 5; q++) {
                    TileForge t = new TileForge();
                    Streams.load(t, across, down, q);
                    Due.same("decode of a head alone", 0, t.decode());
                    Due.same("the last pixel", 128, t.get(2, 4 * across - 1, 4 * down - 1));
                    Due.badIndex("its width", () -> t.get(2, 4 * t.stream(0), 0));
                    Due.badIndex("its height", () -> t.get(2, 0, 4 * t.stream(1)));
                }
            }
        }
    }

    private static void badChangesNothing() {
        TileForge t = Streams.of(1, 1, 0, "01 00000");
        t.decode();
        t.damage(2, 6);
        Due.unsupported("decode, bad", () -> t.decode());
        Due.same("bad: the result", 127, t.get(2, 0, 0));
        Due.same("bad: the mode", 1, t.mode(true, 0));
        Due.same("bad: the blocks", 1, t.count(5));
        Due.same("bad: the fate", 0, t.count(6));
        Due.same("bad: the bits", 31, t.count(7));
        Due.same("bad: the stream", "1 1 6 64", Streams.bytesOf(t));
    }

    private static void emptyBlocks() {
        TileForge t = Streams.of(2, 2, 3, "10 00000 01 00000 00 00000 11 00000");
        Due.same("empty blocks: decode", 4, t.decode());
        Due.same("block 0 is LEFT, 129", 129, t.get(2, 0, 0));
        Due.same("block 1 is ABOVE, 127", 127, t.get(2, 4, 0));
        Due.same("block 2 is the mean of above, 129", 129, t.get(2, 0, 4));
        Due.same("block 3 is 129 + 127 - 129", 127, t.get(2, 4, 4));
        Due.same("modes", "2 1 0 3", t.mode(true, 0) + " " + t.mode(true, 1) + " " + t.mode(true, 2) + " "
                + t.mode(true, 3));
        Due.badIndex("mode of block 4", () -> t.mode(true, 4));
        Due.badIndex("mode of block -1", () -> t.mode(true, -1));
        Due.badIndex("mode of the coder", () -> t.mode(false, 0));
        Due.same("bits", 24 + 28, t.count(7));
        Due.same("fate", 0, t.count(6));
        TileForge both = Streams.of(2, 2, 0, "10 00000 01 00000 01 00000 00 00000");
        both.decode();
        Due.same("the mean of 127 and 129", 128, both.get(2, 7, 7));
    }

    /** All these bits are whole bytes, so that none is filled up with 0. */
    private static void endedInEachPart() {
        fate("in a mode", 1, 1, 31, Streams.of(2, 1, 0, "01 00000 0"));
        fate("in a length", 1, 2, 38, Streams.of(3, 1, 0, "01 00000 01 00000 01"));
        fate("in the ones", 1, 0, 24, Streams.of(1, 1, 0, "01 00001 1 11111111"));
        fate("in the low bits", 1, 0, 24, Streams.of(1, 1, 0, "01 00010 0000 11110"));
        fate("in the long form", 1, 0, 24, Streams.of(1, 1, 0, "01 00001 " + LONG + "0000000000000"));
        fate("before the second level", 1, 0, 24, Streams.of(1, 1, 0, "01 00010 111110 000"));
    }

    private static void fate(String where, int fate, int blocks, int bits, TileForge t) {
        Due.same("read " + where + ": decode", blocks, t.decode());
        Due.same("read " + where + ": blocks", blocks, t.count(5));
        Due.same("read " + where + ": fate", fate, t.count(6));
        Due.same("read " + where + ": bits", bits, t.count(7));
        Due.badIndex("read " + where + ": mode", () -> t.mode(true, blocks));
    }

    private static void tooManyLevels() {
        for (int length = 17; length <= 31; length++) {
            TileForge t = Streams.of(1, 1, 0, "00 " + Streams.number(length, 5) + " 0");
            fate("with " + length + " levels", 2, 0, 24, t);
            Due.same("wrong: 128", 128, t.get(2, 0, 0));
        }
        fate("with 16 levels", 1, 0, 24, Streams.of(1, 1, 0, "00 10000 0"));
    }

    private static void greatestU() {
        TileForge most = Streams.of(1, 1, 0, "00 00001" + LONG + Streams.number(8190, 14));
        fate("at u 8190", 0, 1, 24 + 33, most);
        Due.same("u 8190 is -4095: black", 0, most.get(2, 1, 1));
        fate("at u 8191", 2, 0, 24, Streams.of(1, 1, 0, "00 00001" + LONG + Streams.number(8191, 14)));
        fate("at u 16383", 2, 0, 24, Streams.of(1, 1, 0, "00 00001" + LONG + Streams.number(16383, 14)));
        TileForge white = Streams.of(1, 1, 5, "00 00001" + LONG + Streams.number(8189, 14));
        fate("at u 8189", 0, 1, 24 + 33, white);
        Due.same("u 8189 is 4095: white", 255, white.get(2, 1, 1));
    }

    /** SUM 8198, N 2 asks for k 12, but it is at most 10: seven ones and 1022 are 8190. */
    private static void greatestUInTheShortForm() {
        String start = "00 00011 0000" + LONG + Streams.number(8190, 14) + Streams.ones(7) + "0";
        int bits = 24 + 7 + 4 + 26 + 8 + 10;
        fate("at a short u of 8190", 0, 1, bits, Streams.of(1, 1, 0, start + Streams.number(1022, 10)));
        fate("at a short u of 8191", 2, 0, 24, Streams.of(1, 1, 0, start + Streams.number(1023, 10)));
        String far = "00 00011 0000" + LONG + Streams.number(8190, 14) + Streams.ones(11) + "0";
        fate("at a short u of 12287", 2, 0, 24, Streams.of(1, 1, 0, far + Streams.number(1023, 10)));
    }

    /** Nothing says that the long form is wrong for a number that has a short one. */
    private static void longFormOfSmallNumbers() {
        TileForge t = Streams.of(1, 1, 4, "00 00001" + LONG + Streams.number(5, 14));
        fate("with a long 5", 0, 1, 24 + 33, t);
        Due.same("u 5 is 3, times 16 is 48: 3 more", 131, t.get(2, 2, 2));
        TileForge below = Streams.of(1, 1, 4, "00 00001" + LONG + Streams.number(6, 14));
        below.decode();
        Due.same("u 6 is -3", 125, below.get(2, 2, 2));
    }

    /** Sixteen zeros: k is 3 for the first; for the others 3, 2 2, 1 1 1 1, then 0. */
    private static void zeroLevelsAdapt() {
        TileForge t = Streams.of(1, 1, 0, "00 10000" + "0".repeat(30));
        fate("with sixteen zeros", 0, 1, 24 + 7 + 4 + 4 + 6 + 8 + 8, t);
        t.cut(7);
        fate("with a byte less", 1, 0, 24, t);
    }

    /**
     * Fifteen others with u 1 to begin with: SUM 23, N 16 are halved to 11 and 8, so k is 1 in the next block, as
     * it would be unhalved (16 << 1). A u of 10 then gives 21, 9 (k 2) halved, but 33, 17 (k 1) unhalved.
     */
    private static void halvedAtSixteen() {
        // k for u 1, from SUM 8, N 1 on: 3, then 9/2: 3, 10/3: 2, 11/4: 2, 12/5: 2, 13/6: 2, 14/7: 1, then 15/8 and on
        // to 22/15: 1 each.
        String ones = "0001 0001 001 001 001 001" + "01".repeat(9);
        String first = "00 10000 0000" + ones;
        // Second block: first count 8, 2: k 2. Others k 1: 10 is five ones, 0 and 0; then k 2: 1 is 0 01.
        String second = "00 00011 000 1111100 001";
        TileForge t = Streams.of(2, 1, 0, first + second);
        fate("behind halving", 0, 2, 24 + 11 + 8 + 12 + 18 + 7 + 3 + 7 + 3, t);
    }

    /** A great first level leaves the count of the others alone, and the other way round. */
    private static void twoCounts() {
        String first = "00 00010" + LONG + Streams.number(1000, 14) + "0000";
        String second = "00 00010 0" + Streams.number(0, 9) + "000";
        TileForge t = Streams.of(2, 1, 0, first + second);
        // First: 1008, 2 makes k 9. Others: 8, 2 makes k 2.
        fate("with two counts", 0, 2, 24 + 7 + 26 + 4 + 7 + 10 + 3, t);
    }

    private static void whatComesBehindTheEnd() {
        TileForge t = Streams.of(2, 2, 0, "01 00000 01 11111 01 00000 01 00000");
        fate("in block 1", 2, 1, 31, t);
        Due.same("block 0 came out", 127, t.get(2, 3, 3));
        for (int i = 0; i < 64; i++) {
            int x = i % 8;
            int y = i / 8;
            if (x >= 4 || y >= 4) {
                Due.same("filled in at " + x + ", " + y, 128, t.get(2, x, y));
            }
        }
        Due.badIndex("mode of block 3", () -> t.mode(true, 3));
    }

    private static void bitsBehindTheLastBlock() {
        TileForge t = Streams.of(1, 1, 0, "01 00000 1 11111111 11111111");
        fate("with bits behind", 0, 1, 31, t);
        Due.same("bits behind: pixel", 127, t.get(2, 0, 0));
    }

    private static void latestDecodeCounts() {
        TileForge t = new TileForge();
        t.fill(0, 0, 90, 0, 0);
        t.encode(0);
        Due.same("decode", 1, t.decode());
        Streams.load(t, 2, 1, 0);
        Due.same("decode of less", 0, t.decode());
        Due.same("latest: blocks", 0, t.count(5));
        Due.same("latest: fate", 1, t.count(6));
        Due.same("latest: bits", 24, t.count(7));
        Due.same("latest: no old pixel", 128, t.get(2, 0, 0));
        Due.badIndex("latest: no old mode", () -> t.mode(true, 0));
        Due.same("the copy stays", 90, t.get(1, 0, 0));
        Due.same("the copy's mode stays", 1, t.mode(false, 0));
        t.damage(3, 64);
        t.damage(4, 128);
        Due.same("decode of more", 2, t.decode());
        Due.same("latest: fate is whole again", 0, t.count(6));
        Due.same("latest: bits of both", 38, t.count(7));
    }

    private static void levelsBecomePixels() {
        TileForge t = Streams.of(1, 1, 5, "00 00010 0000 0100");
        t.decode();
        // Level 1 is -2, times 32: 4 less on the left, 4 more on the right.
        Due.same("a level of the first row", "124 124 132 132", Streams.pixelsOf(t, 2, 4, 1));
        TileForge far = Streams.of(1, 1, 5, "00 00101 0000 0000 000 000 " + LONG + Streams.number(8190, 14));
        far.decode();
        Due.same("a level of the second row, above", "0 0 0 0", Streams.pixelsOf(far, 2, 4, 1));
        Due.same("a level of the second row, below", 255, far.get(2, 0, 3));
        TileForge rounded = Streams.of(1, 1, 3, "00 00001 0001");
        rounded.decode();
        Due.same("(8 + 8) >> 4", 129, rounded.get(2, 0, 0));
        TileForge down = Streams.of(1, 1, 3, "00 00001 0010");
        down.decode();
        Due.same("(-8 + 8) >> 4", 128, down.get(2, 0, 0));
        TileForge less = Streams.of(1, 1, 0, "00 00001 10010");
        less.decode();
        Due.same("(-5 + 8) >> 4", 128, less.get(2, 0, 0));
        TileForge floor = Streams.of(1, 1, 0, "00 00001 110010");
        floor.decode();
        Due.same("(-9 + 8) >> 4", 127, floor.get(2, 0, 0));
    }
}
