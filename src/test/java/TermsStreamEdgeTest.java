/** The sentences of "Terms" on WHAT IS LEFT and THE STREAM that name a boundary, each with a test of its own. */
public final class TermsStreamEdgeTest {
    private static final String LEFT = "terms, WHAT IS LEFT";
    private static final String STREAM = "terms, THE STREAM";
    private static final String COUNTS = "terms, two COUNTS";

    // A block of nine levels: seven zeros behind the first bring k of the others down to 0 for the last one.
    private static final String DOWN_TO_K_0 = "00 01001 0000 0000 000 000 00 00 00 00";

    public static void main(String[] args) {
        Due.sentence(LEFT, "With COARSENESS q (0 to 5) the STEP is 2 to the power q",
                TermsStreamEdgeTest::stepOfEachCoarseness);
        Due.sentence(LEFT, "a LEVEL is (|c| + STEP / 2) / STEP, with the sign of c, cut as ints are",
                TermsStreamEdgeTest::levelAtHalfAStep);
        Due.sentence(LEFT, "v becomes (v + 8) >> 4", TermsStreamEdgeTest::shiftBelowZero);
        Due.sentence(LEFT, "foretold and this, clipped to 0 to 255, is the PIXEL of THE COPY",
                TermsStreamEdgeTest::pixelOfTheCopyIsClipped);
        Due.sentence(STREAM, "a row of at most 400 BYTES", TermsStreamEdgeTest::fullRowIsReadToItsEnd);
        Due.sentence(STREAM, "WIDTH / 4, HEIGHT / 4, q", TermsStreamEdgeTest::headOfEachSize);
        Due.sentence(STREAM, "bits, from the highest of a BYTE on, the last BYTE filled up with 0",
                TermsStreamEdgeTest::lastByteIsFilledUp);
        Due.sentence(STREAM, "how many LEVELS there are up to the last one that is not 0 (5 bits)",
                TermsStreamEdgeTest::lengthOf0And1And2And16);
        Due.sentence(STREAM, "A LEVEL l as the number u, 2 l - 1 if it is above 0, else -2 l",
                TermsStreamEdgeTest::numbersOfLevels);
        Due.sentence(STREAM, "u >> k times the bit 1 and a 0, then the lowest k bits of u, the highest first",
                TermsStreamEdgeTest::shortForm);
        Due.sentence(STREAM, "but if u >> k is 12 or more, 12 times the bit 1, then 14 bits, u",
                TermsStreamEdgeTest::longFormFrom12On);
        Due.sentence(COUNTS, "one for the first LEVEL of a BLOCK, one for the others",
                TermsStreamEdgeTest::twoCounts);
        Due.sentence(COUNTS, "both SUM 8, N 1 at the beginning of a picture",
                TermsStreamEdgeTest::countsBeginAnew);
        Due.sentence(COUNTS, "k is the least from 0 on with N << k not below SUM",
                TermsStreamEdgeTest::kWhereBothAreTheSame);
        Due.sentence(COUNTS, "at most 10", TermsStreamEdgeTest::kIsAtMost10);
        Due.sentence(COUNTS, "behind each LEVEL SUM becomes SUM + u, N one more",
                TermsStreamEdgeTest::sumAndNGrow);
        Due.sentence(COUNTS, "when N is 16 both are halved (cut)", TermsStreamEdgeTest::halvedAt16);
        Due.end();
    }

    /** 128 throughout but for one pixel: MODE 0, and all 16 numbers of the block are by as much from 0. */
    private static TileForge onePixelMore(int more, int q) {
        TileForge t = new TileForge();
        t.fill(0, 0, 128, 0, 0);
        t.pixel(1, 0, 128 + more);
        t.encode(q);
        return t;
    }

    private static void stepOfEachCoarseness() {
        int[] steps = {1, 2, 4, 8, 16, 32};
        for (int q = 0; q <= 5; q++) {
            TileForge t = onePixelMore(64, q);
            Due.same("the greatest of 64 with q " + q, 64 / steps[q], t.count(4));
            Due.same("the pixel comes back with q " + q, 192, t.get(1, 1, 0));
        }
    }

    private static void levelAtHalfAStep() {
        Due.same("q 0: 1", "16 1 129", levelsAndPixel(1, 0));
        Due.same("q 0: -1", "16 1 127", levelsAndPixel(-1, 0));
        for (int q = 1; q <= 5; q++) {
            int step = 1 << q;
            int half = step / 2;
            String name = "q " + q + ": ";
            Due.same(name + "below half", "0 0 128", levelsAndPixel(half - 1, q));
            Due.same(name + "half", "16 1 " + (128 + step), levelsAndPixel(half, q));
            Due.same(name + "below half, less", "0 0 128", levelsAndPixel(1 - half, q));
            Due.same(name + "half, less", "16 1 " + (128 - step), levelsAndPixel(-half, q));
            Due.same(name + "below one and a half", "16 1 " + (128 + step), levelsAndPixel(step + half - 1, q));
            Due.same(name + "one and a half", "16 2 " + (128 + 2 * step), levelsAndPixel(step + half, q));
            Due.same(name + "one and a half, less", "16 2 " + (128 - 2 * step), levelsAndPixel(-step - half, q));
        }
    }

    private static String levelsAndPixel(int more, int q) {
        TileForge t = onePixelMore(more, q);
        return t.count(3) + " " + t.count(4) + " " + t.get(1, 1, 0);
    }

    /** One level at STEP 1 is v for all pixels of the block. */
    private static void shiftBelowZero() {
        Due.same("7", 128, pixelOf("00", 13, 0));
        Due.same("8", 129, pixelOf("00", 15, 0));
        Due.same("23", 129, pixelOf("00", 45, 0));
        Due.same("24", 130, pixelOf("00", 47, 0));
        Due.same("-8", 128, pixelOf("00", 16, 0));
        Due.same("-9", 127, pixelOf("00", 18, 0));
        Due.same("-24", 127, pixelOf("00", 48, 0));
        Due.same("-25", 126, pixelOf("00", 50, 0));
    }

    private static int pixelOf(String mode, int u, int q) {
        TileForge t = Streams.of(1, 1, q, mode + "00001" + Streams.code(u, 3));
        t.decode();
        Due.same("the last pixel is as the first", t.get(2, 0, 0), t.get(2, 3, 3));
        return t.get(2, 0, 0);
    }

    private static void pixelOfTheCopyIsClipped() {
        Due.same("129 and 126", 255, pixelOf("10", 2 * 126 - 1, 4));
        Due.same("129 and 127", 255, pixelOf("10", 2 * 127 - 1, 4));
        Due.same("127 less 127", 0, pixelOf("01", 2 * 127, 4));
        Due.same("127 less 128", 0, pixelOf("01", 2 * 128, 4));
        TileForge black = new TileForge();
        black.encode(5);
        Due.same("black: -127 is coarsened to -128", 64, black.count(4));
        Due.same("black: the copy", 0, black.get(1, 0, 0));
        TileForge white = new TileForge();
        white.size(8, 4);
        white.fill(0, 0, 128, 0, 0);
        white.fill(4, 0, 255, 0, 0);
        white.encode(5);
        Due.same("white: 127 is coarsened to 128", 64, white.count(4));
        Due.same("white: the copy", 255, white.get(1, 7, 3));
    }

    /** Zeros in the long form: a block has 7 and 16 times 26 bits, so that seven stand in 400 bytes. */
    private static void fullRowIsReadToItsEnd() {
        String block = "0010000" + (Streams.ones(12) + Streams.number(0, 14)).repeat(16);
        TileForge t = Streams.of(3, 3, 0, block.repeat(8).substring(0, 397 * 8));
        Due.same("bytes", 400, t.stream(-1));
        Due.same("decode", 7, t.decode());
        Due.same("it ended", 1, t.count(6));
        Due.same("bits", 24 + 7 * 423, t.count(7));
        Due.same("block 6", 128, t.get(2, 0, 8));
        Due.badIndex("byte 400", () -> t.stream(400));
        TileForge whole = Streams.of(3, 3, 0, "0100000".repeat(9) + Streams.ones(397 * 8 - 63));
        Due.same("a full row, nine blocks", 9, whole.decode());
        Due.same("a full row, bits", 24 + 63, whole.count(7));
    }

    private static void headOfEachSize() {
        for (int across = 1; across <= 3; across++) {
            for (int down = 1; down <= 3; down++) {
                for (int q = 0; q <= 5; q++) {
                    TileForge t = new TileForge();
                    t.size(4 * across, 4 * down);
                    t.encode(q);
                    String head = t.stream(0) + " " + t.stream(1) + " " + t.stream(2);
                    Due.same("the head", across + " " + down + " " + q, head);
                }
            }
        }
    }

    /** 129 and 21 or 25 at STEP 16: u 41 has nine bits, 40 in all; u 49 has ten, and so one bit of a sixth byte. */
    private static void lastByteIsFilledUp() {
        TileForge t = new TileForge();
        t.encode(0);
        t.fill(0, 0, 150, 0, 0);
        Due.same("the last byte is full", 5, t.encode(4));
        Due.same("the last byte is full: bytes", "1 1 4 131 241", Streams.bytesOf(t));
        Due.same("the last byte is full: bits", 40, t.count(2));
        t.fill(0, 0, 154, 0, 0);
        Due.same("one bit more", 6, t.encode(4));
        Due.same("one bit more: bytes", "1 1 4 131 248 128", Streams.bytesOf(t));
        Due.same("one bit more: bits", 41, t.count(2));
    }

    private static void lengthOf0And1And2And16() {
        TileForge t = new TileForge();
        t.fill(0, 0, 128, 0, 0);
        t.encode(4);
        Due.same("none", "00" + "00000", Streams.bitsOf(t));
        t.fill(0, 0, 130, 0, 0);
        t.encode(4);
        Due.same("one", "10" + "00001" + "0001", Streams.bitsOf(t));
        t.fill(0, 0, 129, 0, 0);
        t.fill(2, 0, 127, 0, 0);
        t.encode(4);
        Due.same("two", "00" + "00010" + "0000" + "0001", Streams.bitsOf(t));
        for (int i = 0; i < 16; i++) {
            t.pixel(i % 4, i / 4, (i % 4 + i / 4) % 2 == 0 ? 129 : 127);
        }
        t.encode(4);
        Due.same("the last of 16 alone", "0010000" + "0".repeat(4 + 25) + "10", Streams.bitsOf(t));
        Due.same("of 16 levels one is not 0", 1, t.count(3));
        t.decode();
        Due.same("and it comes back", 0.0, t.apart(0, 2));
    }

    private static void numbersOfLevels() {
        Due.same("1 is 1", "1000001" + Streams.code(1, 3), bitsOfFlat(130, 4));
        Due.same("-1 is 2", "0100001" + Streams.code(2, 3), bitsOfFlat(126, 4));
        Due.same("0 is 0", "0000010" + Streams.code(0, 3) + Streams.code(1, 3), bitsOfHalves());
        Due.same("-4080 is 8160", Streams.code(8160, 10), lastOfFour(255, 0));
        Due.same("4080 is 8159", Streams.code(8159, 10), lastOfFour(0, 255));
        Due.same("back: 1", 130, pixelOf("10", 1, 4));
        Due.same("back: 2", 128, pixelOf("10", 2, 4));
        Due.same("back: 0", 129, pixelOf("10", 0, 4));
    }

    private static String bitsOfFlat(int v, int q) {
        TileForge t = new TileForge();
        t.fill(0, 0, v, 0, 0);
        t.encode(q);
        return Streams.bitsOf(t);
    }

    private static String bitsOfHalves() {
        TileForge t = new TileForge();
        t.fill(0, 0, 129, 0, 0);
        t.fill(2, 0, 127, 0, 0);
        t.encode(4);
        return Streams.bitsOf(t);
    }

    /** Three blocks of one colour and the last of the other: its one level, the greatest that there can be. */
    private static String lastOfFour(int three, int last) {
        TileForge t = new TileForge();
        t.size(8, 8);
        t.fill(0, 0, three, 0, 0);
        t.fill(4, 4, last, 0, 0);
        t.encode(0);
        Due.same("the greatest level", 4080, t.count(4));
        return Streams.bitsOf(t).substring(7 + 26 + 7 + 7 + 7);
    }

    private static void shortForm() {
        Due.same("u 7", "1000001" + "0" + "111", bitsOfFlat(133, 4));
        Due.same("u 9", "1000001" + "10" + "001", bitsOfFlat(134, 4));
        Due.same("u 4", "0100001" + "0" + "100", bitsOfFlat(125, 4));
        TileForge t = Streams.of(1, 1, 4, "10 00001 110 110");
        t.decode();
        Due.same("back: two ones and 110 are 22", 129 - 11, t.get(2, 0, 0));
        TileForge none = Streams.of(1, 1, 4, DOWN_TO_K_0 + "1110");
        Due.same("k 0: decode", 1, none.decode());
        Due.same("k 0: there are no low bits", 24 + 29 + 4, none.count(7));
    }

    private static void longFormFrom12On() {
        Due.same("u 95, k 3", "1000001" + "111111111110" + "111", bitsOfFlat(177, 4));
        Due.same("u 96, k 3", "0100001" + "111111111111" + "00000001100000", bitsOfFlat(79, 4));
        TileForge eleven = Streams.of(1, 1, 4, "10 00001 111111111110 111");
        Due.same("eleven ones: decode", 1, eleven.decode());
        Due.same("eleven ones: bits", 24 + 7 + 15, eleven.count(7));
        Due.same("eleven ones", 177, eleven.get(2, 0, 0));
        TileForge twelve = Streams.of(1, 1, 4, "01 00001 111111111111 00000001100000");
        Due.same("twelve ones: decode", 1, twelve.decode());
        Due.same("twelve ones: bits", 24 + 7 + 26, twelve.count(7));
        Due.same("twelve ones", 79, twelve.get(2, 0, 0));
        TileForge short0 = Streams.of(1, 1, 4, DOWN_TO_K_0 + "111111111110");
        short0.decode();
        Due.same("u 11, k 0: bits", 24 + 29 + 12, short0.count(7));
        TileForge long0 = Streams.of(1, 1, 4, DOWN_TO_K_0 + "111111111111 00000000001100");
        long0.decode();
        Due.same("u 12, k 0: bits", 24 + 29 + 26, long0.count(7));
    }

    /** A great first level leaves k of the others at 3, then 2; the first of the next block has k 9. */
    private static void twoCounts() {
        String first = "00 00010" + Streams.code(1000, 3) + Streams.code(0, 3);
        String second = "00 00010" + Streams.code(0, 9) + Streams.code(0, 2);
        TileForge t = Streams.of(2, 1, 0, first + second);
        Due.same("decode", 2, t.decode());
        Due.same("bits", 24 + 7 + 26 + 4 + 7 + 10 + 3, t.count(7));
        String others = "00 00010" + Streams.code(0, 3) + Streams.code(1000, 3);
        TileForge other = Streams.of(2, 1, 0, others + "00 00010" + Streams.code(0, 2) + Streams.code(0, 9));
        Due.same("the other way round: decode", 2, other.decode());
        Due.same("the other way round: bits", 24 + 7 + 4 + 26 + 7 + 3 + 10, other.count(7));
        TileForge coder = new TileForge();
        coder.size(12, 4);
        coder.fill(0, 0, 144, 0, 0);
        coder.fill(4, 0, 159, 0, 0);
        coder.fill(8, 0, 159, 0, 0);
        coder.fill(10, 0, 157, 0, 0);
        coder.encode(0);
        // The last block: 159 and 157 are 16 less and 16 more by the columns, with nothing in the others' count yet.
        String bits = "1000001" + Streams.code(479, 3) + "0000001" + Streams.code(479, 8);
        String last = "0000010" + Streams.code(32, 9) + Streams.code(31, 3);
        Due.same("the coder", bits + last, Streams.bitsOf(coder));
    }

    private static void countsBeginAnew() {
        Due.same("a first level", "1000001" + Streams.code(1, 3), bitsOfFlat(130, 4));
        TileForge t = new TileForge();
        for (int i = 0; i < 16; i++) {
            t.pixel(i % 4, i / 4, i * 37 % 256);
        }
        t.encode(0);
        String bytes = Streams.bytesOf(t);
        t.encode(0);
        Due.same("the same again", bytes, Streams.bytesOf(t));
        t.decode();
        int bits = t.count(7);
        Due.same("the reader", bits, t.count(2));
        t.decode();
        Due.same("the reader again", bits, t.count(7));
        Due.same("the reader again: apart", 0.0, t.apart(0, 2));
        t.damage(3, 0x7f);
        t.decode();
        Streams.load(t, 1, 1, 4, 131, 241);
        Due.same("behind a wrong one", 1, t.decode());
        Due.same("behind a wrong one: the pixel", 150, t.get(2, 2, 2));
    }

    /** Zeros leave SUM 8: N 1, 2, 4 and 8 are just not below it with k 3, 2, 1 and 0. */
    private static void kWhereBothAreTheSame() {
        StringBuilder zeros = new StringBuilder("00 10000" + Streams.code(0, 3));
        int[] least = {3, 2, 2, 1, 1, 1, 1, 0, 0, 0, 0, 0, 0, 0, 0};
        for (int k : least) {
            zeros.append(Streams.code(0, k));
        }
        TileForge t = Streams.of(1, 1, 0, zeros.toString());
        Due.same("decode", 1, t.decode());
        Due.same("bits", 24 + 7 + 4 + 4 + 6 + 8 + 8, t.count(7));
        // A u of 1 makes 9 of it: N 2 needs k 3 then, N 3 and 4 need 2.
        TileForge nine = Streams.of(1, 1, 0, "00 00101 0000 0001 0000 000 000");
        Due.same("SUM 9: decode", 1, nine.decode());
        Due.same("SUM 9: bits", 24 + 7 + 4 + 4 + 4 + 3 + 3, nine.count(7));
    }

    private static void kIsAtMost10() {
        String start = "00 00011 0000" + Streams.code(8190, 3);
        TileForge t = Streams.of(1, 1, 0, start + Streams.ones(7) + "0" + Streams.number(1022, 10));
        Due.same("SUM 8198, N 2: decode", 1, t.decode());
        Due.same("SUM 8198, N 2: bits", 24 + 7 + 4 + 26 + 8 + 10, t.count(7));
        // 2 << 10 is 2048: SUM 2048 asks for 10, 2049 for 11.
        TileForge at = Streams.of(1, 1, 0, "00 00011 0000" + Streams.code(2040, 3) + "0" + Streams.number(0, 10));
        at.decode();
        Due.same("SUM 2048, N 2: bits", 24 + 7 + 4 + 26 + 11, at.count(7));
        TileForge above = Streams.of(1, 1, 0, "00 00011 0000" + Streams.code(2041, 3) + "0" + Streams.number(0, 10));
        above.decode();
        Due.same("SUM 2049, N 2: bits", 24 + 7 + 4 + 26 + 11, above.count(7));
        TileForge below = Streams.of(1, 1, 0, "00 00011 0000" + Streams.code(1016, 3) + "0" + Streams.number(0, 9));
        below.decode();
        Due.same("SUM 1024, N 2: bits", 24 + 7 + 4 + 26 + 10, below.count(7));
        Due.same("the coder", Streams.code(8159, 10), lastOfFour(0, 255));
    }

    /** Each of three blocks has one level, u 479: SUM 8, 487, 966 and N 1, 2, 3. */
    private static void sumAndNGrow() {
        TileForge t = new TileForge();
        t.size(12, 4);
        t.fill(0, 0, 144, 0, 0);
        t.fill(4, 0, 159, 0, 0);
        t.fill(8, 0, 174, 0, 0);
        t.encode(0);
        String hand = "1000001" + Streams.code(479, 3) + "0000001" + Streams.code(479, 8) + "0000001"
                + Streams.code(479, 9);
        Due.same("the coder", hand, Streams.bitsOf(t));
        t.decode();
        Due.same("the reader", t.count(2), t.count(7));
    }

    /**
     * Two blocks, each with -4 as its second level and 1 as its last, u 8 and 1. In the first block SUM becomes 17 as
     * N becomes 16: cut to 8, with N 8, k is 0 for the second; 9, or 17 of 16, would ask for 1. In the second SUM is 16
     * as N becomes 16 for the second time.
     */
    private static void halvedAt16() {
        String first = "0010000" + Streams.code(0, 3) + Streams.code(8, 3) + Streams.code(0, 3).repeat(2)
                + Streams.code(0, 2).repeat(4) + Streams.code(0, 1).repeat(7) + Streams.code(1, 1);
        String second = "0010000" + Streams.code(0, 2) + Streams.code(8, 0) + Streams.code(0, 1).repeat(7)
                + Streams.code(0, 0).repeat(6) + Streams.code(1, 0);
        TileForge t = new TileForge();
        t.size(8, 4);
        for (int i = 0; i < 16; i++) {
            int more = (i % 4 < 2 ? -4 : 4) + ((i % 4 + i / 4) % 2 == 0 ? 1 : -1);
            t.pixel(i % 4, i / 4, 128 + more);
            t.pixel(4 + i % 4, i / 4, 132 + more);
        }
        t.encode(4);
        Due.same("the coder", first + second, Streams.bitsOf(t));
        Due.same("decode", 2, t.decode());
        Due.same("the reader", t.count(2), t.count(7));
        Due.same("alike", 0.0, t.apart(0, 2));
    }
}
