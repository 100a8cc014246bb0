/** The sentences of "Terms" on READING that name a boundary, each with a test of its own. */
public final class TermsReadingEdgeTest {
    private static final String READING = "terms, READING";
    private static final String LONG = Streams.ones(12);
    // A block of 127 throughout: MODE 1 and no level.
    private static final String PLAIN = "0100000";

    public static void main(String[] args) {
        Due.sentence(READING, "the first two BYTES 1 to 3", TermsReadingEdgeTest::sidesOf1To3);
        Due.sentence(READING, "the third 0 to 5, else it is BAD", TermsReadingEdgeTest::coarsenessOf0To5);
        Due.sentence(READING, "also with less than three BYTES", TermsReadingEdgeTest::lessThanThreeBytes);
        Due.sentence(READING, "ENDED is what needs a bit behind the last one", TermsReadingEdgeTest::ended);
        Due.sentence(READING, "WRONG is a BLOCK with more than 16 LEVELS", TermsReadingEdgeTest::moreThan16Levels);
        Due.sentence(READING, "or a u above 8190", TermsReadingEdgeTest::uAbove8190);
        Due.sentence(READING, "The BLOCK in which that is, and those behind it, become 128 throughout.",
                TermsReadingEdgeTest::filledInWith128);
        Due.sentence(READING, "(Bits behind the last BLOCK do not matter.)",
                TermsReadingEdgeTest::bitsBehindTheLastBlock);
        Due.end();
    }

    private static void isBad(int... bytes) {
        TileForge t = new TileForge();
        Streams.load(t, bytes);
        Due.unsupported("decode of " + Streams.bytesOf(t), () -> t.decode());
    }

    private static void fate(String where, int fate, int blocks, int bits, TileForge t) {
        int came = t.decode();
        Due.same(where + ": decode, fate, bits", blocks + " " + fate + " " + bits,
                came + " " + t.count(6) + " " + t.count(7));
    }

    private static void sidesOf1To3() {
        int[] bad = {0, 4, 5, 65, 128, 129, 255};
        for (int side : bad) {
            isBad(side, 1, 0, 64);
            isBad(1, side, 0, 64);
        }
        for (int across = 1; across <= 3; across++) {
            for (int down = 1; down <= 3; down++) {
                TileForge t = Streams.of(across, down, 0, PLAIN.repeat(9));
                Due.same(across + " by " + down + " blocks", across * down, t.decode());
                Due.same(across + " by " + down + ", the last", 127, t.get(2, 4 * across - 1, 4 * down - 1));
            }
        }
    }

    private static void coarsenessOf0To5() {
        isBad(1, 1, 6, 64);
        isBad(1, 1, 7, 64);
        isBad(1, 1, 128, 64);
        isBad(1, 1, 255, 64);
        int[] pixels = {132, 136, 144, 160, 192, 255};
        for (int q = 0; q <= 5; q++) {
            TileForge t = Streams.of(1, 1, q, "00 00001" + Streams.code(2 * 64 - 1, 3));
            Due.same("q " + q, 1, t.decode());
            Due.same("q " + q + ": a level of 64", pixels[q], t.get(2, 0, 0));
        }
    }

    private static void lessThanThreeBytes() {
        isBad();
        isBad(1);
        isBad(1, 1);
        TileForge t = new TileForge();
        Streams.load(t, 1, 1, 0);
        Due.same("three are enough", 0, t.decode());
        t.cut(2);
        Due.unsupported("one of them cut off", () -> t.decode());
    }

    /** All these bits are whole bytes, so that none is filled up with 0: what comes next needs a bit behind them. */
    private static void ended() {
        fate("before the mode", 1, 0, 24, Streams.of(1, 1, 0, ""));
        fate("in the mode", 1, 1, 31, Streams.of(2, 1, 0, PLAIN + "0"));
        fate("before the length", 1, 2, 38, Streams.of(3, 1, 0, PLAIN.repeat(2) + "01"));
        fate("at the last bit of the length", 1, 6, 66, Streams.of(3, 3, 0, PLAIN.repeat(6) + "01 0000"));
        fate("before the first level", 1, 7, 73, Streams.of(3, 3, 0, PLAIN.repeat(7) + "01 00001"));
        fate("in the ones", 1, 0, 24, Streams.of(1, 1, 0, "01 00001 1 11111111"));
        fate("before the low bits", 1, 0, 24, Streams.of(1, 1, 0, "01 00001 0"));
        fate("at the last low bit", 1, 0, 24, Streams.of(1, 1, 0, "01 00001 1111110 00"));
        fate("before the long form", 1, 3, 45, Streams.of(2, 2, 0, PLAIN.repeat(3) + "01 00001" + LONG));
        fate("at the last bit of the long form", 1, 0, 24, Streams.of(1, 1, 0, "01 00001" + LONG + "0".repeat(13)));
        fate("so too if u would be above 8190", 1, 0, 24, Streams.of(1, 1, 0, "01 00001" + LONG + "1".repeat(13)));
        fate("before the second level", 1, 0, 24, Streams.of(1, 1, 0, "01 00010 111110 000"));
        fate("before the last block", 1, 8, 80, Streams.of(3, 3, 0, PLAIN.repeat(8)));
        fate("the last bit is there", 0, 1, 40, Streams.of(1, 1, 4, "10 00001 111110 001"));
        TileForge exact = Streams.of(2, 1, 0, PLAIN + "00 00001" + LONG + Streams.number(5, 14));
        fate("the last bit of the long form is there", 0, 2, 64, exact);
        exact.cut(7);
        fate("a byte less", 1, 1, 31, exact);
    }

    private static void moreThan16Levels() {
        for (int length = 17; length <= 31; length++) {
            String block = "00" + Streams.number(length, 5);
            fate(length + " levels", 2, 0, 24, Streams.of(1, 1, 0, block + "0".repeat(200)));
            fate(length + " levels, nothing behind", 2, 7, 73, Streams.of(3, 3, 0, PLAIN.repeat(7) + block));
        }
        fate("16 levels", 0, 1, 24 + 37, Streams.of(1, 1, 0, "00 10000" + "0".repeat(30)));
    }

    /** SUM 8198, N 2 has k 10: seven ones and 1022 are 8190. */
    private static void uAbove8190() {
        fate("8190", 0, 1, 57, Streams.of(1, 1, 0, "00 00001" + LONG + Streams.number(8190, 14)));
        fate("8191", 2, 0, 24, Streams.of(1, 1, 0, "00 00001" + LONG + Streams.number(8191, 14)));
        fate("8192", 2, 0, 24, Streams.of(1, 1, 0, "00 00001" + LONG + Streams.number(8192, 14)));
        fate("16383", 2, 0, 24, Streams.of(1, 1, 0, "00 00001" + LONG + Streams.number(16383, 14)));
        fate("8190 as the second", 0, 1, 61, Streams.of(1, 1, 0, "00 00010 0000" + LONG + Streams.number(8190, 14)));
        fate("8191 as the second", 2, 0, 24, Streams.of(1, 1, 0, "00 00010 0000" + LONG + Streams.number(8191, 14)));
        String start = "00 00011 0000" + LONG + Streams.number(8190, 14);
        String seven = start + Streams.ones(7) + "0";
        fate("8190, short", 0, 1, 24 + 7 + 4 + 26 + 18, Streams.of(1, 1, 0, seven + Streams.number(1022, 10)));
        fate("8191, short", 2, 0, 24, Streams.of(1, 1, 0, seven + Streams.number(1023, 10)));
        String eleven = start + Streams.ones(11) + "0";
        fate("12287, short", 2, 0, 24, Streams.of(1, 1, 0, eleven + Streams.number(1023, 10)));
        fate("8191 in the last block", 2, 8, 80,
                Streams.of(3, 3, 0, PLAIN.repeat(8) + "00 00001" + LONG + Streams.number(8191, 14)));
    }

    private static void filledInWith128() {
        for (int whole = 0; whole < 9; whole++) {
            greyFrom(whole, "ENDED", Streams.of(3, 3, 0, PLAIN.repeat(whole) + "10 01111 " + Streams.ones(7)));
            greyFrom(whole, "WRONG", Streams.of(3, 3, 0, PLAIN.repeat(whole) + "10 10001" + PLAIN.repeat(9)));
            String level = "10 00010 0001" + LONG + Streams.number(8191, 14);
            greyFrom(whole, "WRONG, u", Streams.of(3, 3, 0, PLAIN.repeat(whole) + level + PLAIN.repeat(9)));
        }
        TileForge again = Streams.of(1, 1, 0, PLAIN);
        again.decode();
        again.cut(3);
        again.decode();
        Due.same("an earlier result is gone", 128, again.get(2, 3, 3));
    }

    private static void greyFrom(int whole, String name, TileForge t) {
        Due.same(name + " in block " + whole + ": decode", whole, t.decode());
        StringBuilder due = new StringBuilder();
        for (int i = 0; i < 144; i++) {
            int block = i / 48 * 3 + i % 12 / 4;
            due.append(i == 0 ? "" : " ").append(block < whole ? 127 : 128);
        }
        Due.same(name + " in block " + whole + ": pixels", due.toString(), Streams.pixelsOf(t, 2, 12, 12));
    }

    private static void bitsBehindTheLastBlock() {
        fate("none but the filling", 0, 1, 31, Streams.of(1, 1, 0, PLAIN));
        fate("ones in the last byte", 0, 1, 31, Streams.of(1, 1, 0, PLAIN + "1"));
        TileForge t = Streams.of(1, 1, 0, PLAIN + "1" + "1".repeat(80));
        fate("ten bytes", 0, 1, 31, t);
        Due.same("ten bytes: the pixel", 127, t.get(2, 3, 3));
        Due.same("the bytes stay", 14, t.stream(-1));
    }
}
