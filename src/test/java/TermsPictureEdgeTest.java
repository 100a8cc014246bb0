/** The sentences of "Terms" on a PICTURE and on FORETELLING that name a boundary, each with a test of its own. */
public final class TermsPictureEdgeTest {
    private static final String PICTURE = "terms, A PICTURE";
    private static final String FORETELLING = "terms, FORETELLING";

    public static void main(String[] args) {
        Due.sentence("what it is", "An object is used for at most 512 calls after it has been made",
                TermsPictureEdgeTest::call512StillAnswers);
        Due.sentence(PICTURE, "has WIDTH and HEIGHT of 4, 8 or 12 PIXELS", TermsPictureEdgeTest::sidesOf4And8And12);
        Due.sentence(PICTURE, "PIXELS, 0 to 255", TermsPictureEdgeTest::pixelsOf0And255);
        Due.sentence(PICTURE, "BLOCKS of 4 by 4, row by row, from the left",
                TermsPictureEdgeTest::blocksRowByRowFromTheLeft);
        Due.sentence(FORETELLING, "from PIXELS of THE COPY (the reader: THE RESULT) as it is so far",
                TermsPictureEdgeTest::fromTheCopyNotThePicture);
        Due.sentence(FORETELLING, "ABOVE are the four PIXELS over it, or 127 where there is no row",
                TermsPictureEdgeTest::aboveIs127WithoutRow);
        Due.sentence(FORETELLING, "LEFT the four before it, or 129 where there is no column",
                TermsPictureEdgeTest::leftIs129WithoutColumn);
        Due.sentence(FORETELLING, "127 if there is no row above", TermsPictureEdgeTest::cornerIs127WithoutRow);
        Due.sentence(FORETELLING, "else 129 if there is no column", TermsPictureEdgeTest::cornerIs129WithoutColumn);
        Due.sentence(FORETELLING, "CORNER that before ABOVE", TermsPictureEdgeTest::cornerIsThePixelBeforeAbove);
        Due.sentence(FORETELLING, "(sum + 4) / 8", TermsPictureEdgeTest::meanOfBoth);
        Due.sentence(FORETELLING, "(sum + 2) / 4 of one alone", TermsPictureEdgeTest::meanOfOneAlone);
        Due.sentence(FORETELLING, "128 without both", TermsPictureEdgeTest::meanWithoutBoth);
        Due.sentence(FORETELLING, "LEFT of its row + ABOVE of its column - CORNER, clipped to 0 to 255",
                TermsPictureEdgeTest::mode3IsClipped);
        Due.sentence(FORETELLING, "The coder takes the MODE with the least sum of |PIXEL - foretold|",
                TermsPictureEdgeTest::leastSumWinsByTwo);
        Due.sentence(FORETELLING, "of several the least", TermsPictureEdgeTest::ofSeveralModesTheLeast);
        Due.end();
    }

    private static void call512StillAnswers() {
        TileForge t = new TileForge();
        for (int call = 1; call <= 508; call++) {
            t.pixel(call % 4, call / 4 % 4, call % 256);
        }
        Due.same("call 509", 16, t.fill(0, 0, 128, 0, 0));
        Due.same("call 510", 4, t.encode(5));
        Due.same("call 511", 1, t.decode());
        Due.same("call 512", 128, t.get(2, 3, 3));
    }

    private static void sidesOf4And8And12() {
        int[] sides = {4, 8, 12};
        for (int width : sides) {
            for (int height : sides) {
                TileForge t = new TileForge();
                String name = width + " by " + height;
                Due.same(name + ": blocks", width / 4 * (height / 4), t.size(width, height));
                t.pixel(width - 1, height - 1, 9);
                t.encode(0);
                Due.same(name + ": decode", width / 4 * (height / 4), t.decode());
                for (int of = 0; of <= 2; of++) {
                    int chosen = of;
                    Due.same(name + ": the last pixel of " + of, 9, t.get(of, width - 1, height - 1));
                    Due.badIndex(name + ": behind the columns of " + of, () -> t.get(chosen, width, height - 1));
                    Due.badIndex(name + ": behind the rows of " + of, () -> t.get(chosen, width - 1, height));
                }
            }
        }
    }

    private static void pixelsOf0And255() {
        TileForge t = new TileForge();
        t.pixel(0, 0, 255);
        t.pixel(3, 3, 255);
        t.encode(0);
        t.decode();
        for (int of = 0; of <= 2; of++) {
            Due.same("255 of " + of, 255, t.get(of, 3, 3));
            Due.same("0 of " + of, 0, t.get(of, 2, 3));
        }
    }

    /** Each block of 12 by 8 is foretold 127 or 129 by its own mode, so that the places tell the order. */
    private static void blocksRowByRowFromTheLeft() {
        TileForge t = Streams.of(3, 2, 0, "10 00000 01 00000 00 00000 10 00000 01 00000 10 00000");
        Due.same("decode", 6, t.decode());
        Due.same("block 0", 129, t.get(2, 3, 3));
        Due.same("block 1 is to the right of it", 127, t.get(2, 4, 0));
        Due.same("block 2 is the last of its row", 127, t.get(2, 11, 3));
        Due.same("block 3 is the first of the next row", 129, t.get(2, 0, 4));
        Due.same("block 4", 127, t.get(2, 4, 4));
        Due.same("block 5", 127, t.get(2, 11, 7));
        t.size(12, 8);
        t.fill(0, 0, 129, 0, 0);
        t.fill(4, 0, 127, 0, 0);
        t.fill(8, 0, 127, 0, 0);
        t.fill(0, 4, 129, 0, 0);
        t.fill(4, 4, 127, 0, 0);
        t.encode(0);
        Due.same("modes of the coder", "210010----", Snapshot.modesOf(t, false));
    }

    /** 130 is 129 and a level of 1 at STEP 32, which makes it 131: from there 131 needs no level. */
    private static void fromTheCopyNotThePicture() {
        TileForge t = new TileForge();
        t.size(8, 4);
        t.fill(0, 0, 130, 0, 0);
        t.fill(4, 0, 131, 0, 0);
        t.encode(5);
        Due.same("the copy of block 0", 131, t.get(1, 3, 0));
        Due.same("levels", 1, t.count(3));
        Due.same("the copy of block 1", 131, t.get(1, 4, 0));
        t.decode();
        Due.same("the result of block 1", 131, t.get(2, 7, 3));
    }

    private static void aboveIs127WithoutRow() {
        TileForge t = Streams.of(3, 2, 0, "10 00000 01 00000 01 00000 01 00000 01 00000 10 00000");
        t.decode();
        Due.same("block 1, no row", 127, t.get(2, 7, 3));
        Due.same("block 2, no row", 127, t.get(2, 11, 0));
        Due.same("block 3, the row of block 0", 129, t.get(2, 0, 7));
        TileForge first = Streams.of(1, 1, 0, "01 00000");
        first.decode();
        Due.same("block 0, no row", 127, first.get(2, 0, 0));
        TileForge coder = new TileForge();
        coder.fill(0, 0, 127, 0, 0);
        coder.encode(0);
        Due.same("the coder", "0100000", Streams.bitsOf(coder));
        coder.size(4, 8);
        coder.fill(0, 0, 127, 2, 0);
        coder.encode(0);
        Due.same("each the one of its column", "127 129 131 133", Streams.pixelsOf(coder, 1, 4, 1));
        Due.same("the row of block 0 stands over block 1", 1, coder.mode(false, 1));
        Due.same("nothing is left of block 1", "0100000", last7(coder));
    }

    private static String last7(TileForge t) {
        String bits = Streams.bitsOf(t);
        return bits.substring(bits.length() - 7);
    }

    private static void leftIs129WithoutColumn() {
        TileForge t = Streams.of(2, 3, 0, "01 00000 10 00000 10 00000 01 00000 10 00000 01 00000");
        t.decode();
        Due.same("block 1, the column of block 0", 127, t.get(2, 7, 0));
        Due.same("block 2, no column", 129, t.get(2, 0, 4));
        Due.same("block 4, no column", 129, t.get(2, 3, 11));
        TileForge first = Streams.of(1, 1, 0, "10 00000");
        first.decode();
        Due.same("block 0, no column", 129, first.get(2, 3, 3));
        TileForge coder = new TileForge();
        coder.fill(0, 0, 129, 0, 0);
        coder.encode(0);
        Due.same("the coder", "1000000", Streams.bitsOf(coder));
        coder.size(8, 4);
        coder.fill(0, 0, 100, 0, 9);
        coder.encode(0);
        Due.same("each the one of its row", "1000000", last7(coder));
    }

    /** 129 + 127 - 127 without both; with a column of 127 before it, 127 + 127 - 127. */
    private static void cornerIs127WithoutRow() {
        TileForge first = Streams.of(1, 1, 0, "11 00000");
        first.decode();
        Due.same("without row and column", 129, first.get(2, 1, 2));
        TileForge second = Streams.of(3, 1, 0, "01 00000 11 00000 11 00000");
        second.decode();
        Due.same("without a row", 127, second.get(2, 4, 0));
        Due.same("without a row, again", 127, second.get(2, 11, 3));
    }

    /** LEFT 129 and CORNER 129 leave what is over it. */
    private static void cornerIs129WithoutColumn() {
        TileForge t = Streams.of(1, 3, 0, "01 00000 11 00000 11 00000");
        t.decode();
        Due.same("without a column", 127, t.get(2, 0, 4));
        Due.same("without a column, again", 127, t.get(2, 3, 11));
    }

    /** 120 + 110 - 100; the pixels round the corner are others, so that no other one does. */
    private static void cornerIsThePixelBeforeAbove() {
        TileForge t = new TileForge();
        t.size(8, 8);
        t.fill(0, 0, 90, 0, 0);
        t.pixel(3, 3, 100);
        t.fill(4, 0, 110, 0, 0);
        t.fill(0, 4, 120, 0, 0);
        t.fill(4, 4, 130, 0, 0);
        t.encode(0);
        Due.same("mode of block 3", 3, t.mode(false, 3));
        Due.same("nothing is left of it", "1100000", last7(t));
    }

    /** ABOVE is 10 11 12 13, LEFT 20 20 20 and 17 or 18. */
    private static void meanOfBoth() {
        Due.same("a sum of 123", "0 0000000", meanOfBothWith(17, 15));
        Due.same("a sum of 124", "0 0000000", meanOfBothWith(18, 16));
    }

    private static String meanOfBothWith(int lastLeft, int mean) {
        TileForge t = new TileForge();
        t.size(8, 8);
        t.fill(4, 0, 10, 1, 0);
        t.fill(0, 4, 20, 0, 0);
        t.pixel(3, 7, lastLeft);
        t.fill(4, 4, mean, 0, 0);
        t.encode(0);
        return t.mode(false, 3) + " " + last7(t);
    }

    private static void meanOfOneAlone() {
        Due.same("LEFT, a sum of 45", "0 0000000", meanOfLeft(11, 11));
        Due.same("LEFT, a sum of 46", "0 0000000", meanOfLeft(12, 12));
        Due.same("ABOVE, a sum of 45", "0 0000000", meanOfAbove(11, 11));
        Due.same("ABOVE, a sum of 46", "0 0000000", meanOfAbove(12, 12));
    }

    private static String meanOfLeft(int last, int mean) {
        TileForge t = new TileForge();
        t.size(8, 4);
        int[] ends = {10, 11, 13, last};
        for (int y = 0; y < 4; y++) {
            t.pixel(3, y, ends[y]);
        }
        t.fill(4, 0, mean, 0, 0);
        t.encode(0);
        return t.mode(false, 1) + " " + last7(t);
    }

    private static String meanOfAbove(int last, int mean) {
        TileForge t = new TileForge();
        t.size(4, 8);
        int[] ends = {10, 11, 13, last};
        for (int x = 0; x < 4; x++) {
            t.pixel(x, 3, ends[x]);
        }
        t.fill(0, 4, mean, 0, 0);
        t.encode(0);
        return t.mode(false, 1) + " " + last7(t);
    }

    private static void meanWithoutBoth() {
        TileForge reader = Streams.of(1, 1, 0, "00 00000");
        reader.decode();
        Due.same("the reader", 128, reader.get(2, 0, 0));
        TileForge coder = new TileForge();
        coder.fill(0, 0, 128, 0, 0);
        coder.encode(0);
        Due.same("the coder", "0000000", Streams.bitsOf(coder));
    }

    private static void mode3IsClipped() {
        Due.same("250 + 5 - 0 is 255", "1100000", cornerPicture(0, 250, 5, 255));
        Due.same("250 + 6 - 0 is above it", "1100000", cornerPicture(0, 250, 6, 255));
        Due.same("250 + 250 - 0", "1100000", cornerPicture(0, 250, 250, 255));
        Due.same("100 + 150 - 250 is 0", "1100000", cornerPicture(250, 100, 150, 0));
        Due.same("100 + 149 - 250 is below it", "1100000", cornerPicture(250, 100, 149, 0));
        Due.same("10 + 10 - 250", "1100000", cornerPicture(250, 10, 10, 0));
    }

    private static String cornerPicture(int corner, int above, int left, int last) {
        TileForge t = new TileForge();
        t.size(8, 8);
        t.fill(0, 0, corner, 0, 0);
        t.fill(4, 0, above, 0, 0);
        t.fill(0, 4, left, 0, 0);
        t.fill(4, 4, last, 0, 0);
        t.encode(0);
        return last7(t);
    }

    /** 127 and 129 mixed: the sums are 16 for 128, and twice the number of the others for 127 and 129. */
    private static void leastSumWinsByTwo() {
        Due.same("nine of 127", 1, modeOfMixed(9));
        Due.same("seven of 127", 2, modeOfMixed(7));
        TileForge t = new TileForge();
        t.size(8, 8);
        t.fill(0, 0, 20, 10, 10);
        t.encode(0);
        Due.same("a slope", 3, t.mode(false, 3));
        // ABOVE is 10 10 10 11, its mean 10: the last column has 11 three times, and two pixels elsewhere are others.
        t.size(4, 8);
        t.fill(0, 0, 10, 0, 0);
        t.fill(3, 3, 11, 0, 0);
        t.pixel(3, 5, 10);
        t.pixel(0, 6, 9);
        t.pixel(1, 7, 11);
        t.encode(0);
        Due.same("3 against 5", 1, t.mode(false, 1));
    }

    private static int modeOfMixed(int howMany127) {
        TileForge t = new TileForge();
        for (int i = 0; i < 16; i++) {
            t.pixel(i % 4, i / 4, i < howMany127 ? 127 : 129);
        }
        t.encode(0);
        return t.mode(false, 0);
    }

    private static void ofSeveralModesTheLeast() {
        Due.same("eight of 127 and of 129: all four", 0, modeOfMixed(8));
        TileForge t = new TileForge();
        t.fill(0, 0, 255, 0, 0);
        t.encode(0);
        Due.same("2 and 3", 2, t.mode(false, 0));
        t.size(4, 8);
        t.fill(0, 0, 10, 40, 0);
        t.encode(0);
        Due.same("1 and 3", 1, t.mode(false, 1));
        t.size(8, 8);
        t.fill(0, 0, 60, 0, 0);
        t.encode(0);
        Due.same("all four, with neighbours", 0, t.mode(false, 3));
    }
}
