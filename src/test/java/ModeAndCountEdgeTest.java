/** The sentences of promises 12 and 13 that name a boundary, each with a test of its own. */
public final class ModeAndCountEdgeTest {
    private static final int FAR = Integer.MAX_VALUE;
    private static final int FAR_BELOW = Integer.MIN_VALUE;
    private static final String PLAIN = "0100000";

    public static void main(String[] args) {
        promise12();
        promise13();
        Due.end();
    }

    private static void promise12() {
        Due.sentence("promise 12", "The MODE of BLOCK k (0 the first) of THE COPY (reader false) or THE RESULT.",
                ModeAndCountEdgeTest::modeOfFirstAndLast);
        Due.sentence("promise 12", "IndexOutOfBoundsException if there is none", ModeAndCountEdgeTest::modeRefusesNone);
        Due.sentence("promise 12", "or it did not come out of THE STREAM", ModeAndCountEdgeTest::modeRefusesFilledIn);
    }

    private static void promise13() {
        Due.sentence("promise 13", "What 0: WIDTH, 1: HEIGHT of THE PICTURE", ModeAndCountEdgeTest::countOfSides);
        Due.sentence("promise 13", "of the latest encode (0 before one)", ModeAndCountEdgeTest::countBeforeEncode);
        Due.sentence("promise 13", "2: bits (with the 24 of the first three BYTES)",
                ModeAndCountEdgeTest::countOfBits);
        Due.sentence("promise 13", "3: LEVELS that are not 0", ModeAndCountEdgeTest::countOfLevels);
        Due.sentence("promise 13", "4: the greatest LEVEL without sign", ModeAndCountEdgeTest::countOfTheGreatest);
        Due.sentence("promise 13", "of the latest decode (0 before one)", ModeAndCountEdgeTest::countBeforeDecode);
        Due.sentence("promise 13", "5: BLOCKS that came out of it", ModeAndCountEdgeTest::countOfBlocksRead);
        Due.sentence("promise 13", "6: 1 if it ENDED, 2 if it was WRONG, else 0", ModeAndCountEdgeTest::countOfFate);
        Due.sentence("promise 13", "7: bits that were read (with those 24",
                ModeAndCountEdgeTest::countOfBitsRead);
        Due.sentence("promise 13", "those of the BLOCK in which it ENDED or was WRONG do not count",
                ModeAndCountEdgeTest::countLeavesOutTheLastBits);
        Due.sentence("promise 13", "IllegalArgumentException for others.", ModeAndCountEdgeTest::countRefusesOthers);
    }

    private static void modeOfFirstAndLast() {
        TileForge t = new TileForge();
        t.size(12, 12);
        t.fill(0, 0, 129, 0, 0);
        t.fill(8, 8, 127, 0, 0);
        t.encode(0);
        Due.same("the copy's first", 2, t.mode(false, 0));
        Due.same("the copy's nine", "200000000-", Snapshot.modesOf(t, false));
        Streams.put(t, 3, 3, 0, "11 00000 01 00000" + "0000000".repeat(6) + "11 00000");
        t.decode();
        Due.same("the result's nine", "310000003-", Snapshot.modesOf(t, true));
        Due.same("the copy's stay", "200000000-", Snapshot.modesOf(t, false));
        t.size(4, 4);
        Due.same("the copy's stay with another size", 0, t.mode(false, 8));
    }

    private static void modeRefusesNone() {
        TileForge t = new TileForge();
        Due.badIndex("a new object, coder", () -> t.mode(false, 0));
        Due.badIndex("a new object, reader", () -> t.mode(true, 0));
        t.encode(0);
        Due.same("the one block", 1, t.mode(false, 0));
        Due.badIndex("encode makes none of the reader", () -> t.mode(true, 0));
        int[] bad = {FAR_BELOW, -1, 1, 2, 8, 9, FAR};
        for (int k : bad) {
            Due.badIndex("mode(false, " + k + ") of one", () -> t.mode(false, k));
        }
        t.decode();
        for (int k : bad) {
            Due.badIndex("mode(true, " + k + ") of one", () -> t.mode(true, k));
        }
        TileForge reader = Streams.of(1, 1, 0, PLAIN);
        reader.decode();
        Due.badIndex("decode makes none of the coder", () -> reader.mode(false, 0));
        t.size(12, 12);
        t.encode(5);
        Due.same("the last of nine", 0, t.mode(false, 8));
        Due.badIndex("mode(false, 9) of nine", () -> t.mode(false, 9));
        t.size(4, 4);
        t.encode(5);
        Due.badIndex("none is left of the nine", () -> t.mode(false, 1));
    }

    private static void modeRefusesFilledIn() {
        TileForge ended = Streams.of(3, 3, 0, PLAIN.repeat(3) + "10 0");
        ended.decode();
        Due.same("ended in block 3", "111-------", Snapshot.modesOf(ended, true));
        TileForge wrong = Streams.of(3, 3, 0, PLAIN.repeat(8) + "10 10001");
        wrong.decode();
        Due.same("wrong in the last block", "11111111--", Snapshot.modesOf(wrong, true));
        TileForge great = Streams.of(2, 2, 0, PLAIN + "10 00001" + Streams.ones(26));
        great.decode();
        Due.same("a u above 8190 in block 1", "1---------", Snapshot.modesOf(great, true));
        TileForge head = Streams.of(3, 3, 0, "");
        head.decode();
        Due.same("ended before the first", "----------", Snapshot.modesOf(head, true));
        TileForge less = Streams.of(3, 3, 0, PLAIN.repeat(9));
        less.decode();
        Due.same("all nine", "111111111-", Snapshot.modesOf(less, true));
        less.cut(5);
        less.decode();
        Due.same("of a shorter stream", "11--------", Snapshot.modesOf(less, true));
    }

    private static void countOfSides() {
        TileForge t = new TileForge();
        Due.same("a new object", "4 4", t.count(0) + " " + t.count(1));
        t.size(12, 4);
        Due.same("12 by 4", "12 4", t.count(0) + " " + t.count(1));
        t.encode(0);
        t.size(8, 12);
        Due.same("8 by 12, whatever the copy is", "8 12", t.count(0) + " " + t.count(1));
        Due.badArgument("a refused size", () -> t.size(12, 13));
        Due.same("8 by 12 still", "8 12", t.count(0) + " " + t.count(1));
    }

    private static String ofEncode(TileForge t) {
        return t.count(2) + " " + t.count(3) + " " + t.count(4);
    }

    private static String ofDecode(TileForge t) {
        return t.count(5) + " " + t.count(6) + " " + t.count(7);
    }

    private static void countBeforeEncode() {
        TileForge t = Streams.of(1, 1, 0, PLAIN);
        Due.same("a stream by hand", "0 0 0", ofEncode(t));
        t.decode();
        Due.same("behind decode", "0 0 0", ofEncode(t));
        Due.badArgument("a refused encode", () -> t.encode(-1));
        Due.same("behind a refused encode", "0 0 0", ofEncode(t));
        t.encode(0);
        Due.same("the first encode", "57 1 2032", ofEncode(t));
        t.fill(0, 0, 128, 0, 0);
        Due.same("until the next one", "57 1 2032", ofEncode(t));
        t.encode(0);
        Due.same("the latest", "31 0 0", ofEncode(t));
    }

    private static void countOfBits() {
        TileForge t = new TileForge();
        t.fill(0, 0, 128, 0, 0);
        t.encode(0);
        Due.same("the least", 31, t.count(2));
        t.damage(4, 1);
        t.cut(2);
        Due.same("damage and cut leave it", 31, t.count(2));
        t.size(12, 12);
        t.fill(0, 0, 128, 0, 0);
        t.encode(5);
        Due.same("nine blocks", 24 + 63, t.count(2));
        t.size(4, 4);
        t.fill(0, 0, 150, 0, 0);
        Due.same("whole bytes", 5, t.encode(4));
        Due.same("whole bytes: bits", 40, t.count(2));
        t.fill(0, 0, 154, 0, 0);
        Due.same("one bit more", 6, t.encode(4));
        Due.same("one bit more: the filling does not count", 41, t.count(2));
    }

    private static void countOfLevels() {
        TileForge t = new TileForge();
        t.size(8, 4);
        t.fill(0, 0, 128, 0, 0);
        t.encode(0);
        Due.same("none", 0, t.count(3));
        t.pixel(4, 0, 129);
        t.encode(0);
        Due.same("all 16 of a block", 16, t.count(3));
        t.pixel(0, 0, 129);
        t.encode(0);
        Due.same("all of both blocks", 32, t.count(3));
        t.size(4, 4);
        for (int i = 0; i < 16; i++) {
            t.pixel(i % 4, i / 4, (i % 4 + i / 4) % 2 == 0 ? 129 : 127);
        }
        t.encode(0);
        Due.same("the last alone, behind 15 of 0", 1, t.count(3));
    }

    private static void countOfTheGreatest() {
        TileForge t = new TileForge();
        t.encode(0);
        Due.same("below 0", 2032, t.count(4));
        t.fill(0, 0, 255, 0, 0);
        t.encode(0);
        Due.same("above 0", 2016, t.count(4));
        t.size(8, 8);
        t.fill(0, 0, 255, 0, 0);
        t.fill(4, 4, 0, 0, 0);
        t.encode(0);
        Due.same("the most that there is", 4080, t.count(4));
        t.size(8, 4);
        t.fill(0, 0, 0, 0, 0);
        t.fill(4, 0, 1, 0, 0);
        t.encode(0);
        Due.same("not that of the last block", 2032, t.count(4));
        t.encode(5);
        Due.same("coarser", 64, t.count(4));
        t.fill(0, 0, 128, 0, 0);
        t.encode(5);
        Due.same("none", 0, t.count(4));
    }

    private static void countBeforeDecode() {
        TileForge t = new TileForge();
        Due.same("a new object", "0 0 0", ofDecode(t));
        Due.unsupported("a refused decode", () -> t.decode());
        Due.same("behind a refused decode", "0 0 0", ofDecode(t));
        t.encode(0);
        Due.same("behind encode", "0 0 0", ofDecode(t));
        t.decode();
        Due.same("the first decode", "1 0 57", ofDecode(t));
        t.cut(4);
        Due.same("until the next one", "1 0 57", ofDecode(t));
        t.decode();
        Due.same("the latest", "0 1 24", ofDecode(t));
        t.cut(2);
        Due.unsupported("a bad one", () -> t.decode());
        Due.same("a bad one leaves it", "0 1 24", ofDecode(t));
        t.encode(0);
        t.decode();
        Due.same("whole again", "1 0 57", ofDecode(t));
    }

    private static void countOfBlocksRead() {
        for (int whole = 0; whole <= 9; whole++) {
            TileForge t = Streams.of(3, 3, 0, PLAIN.repeat(whole) + "00 10000");
            t.decode();
            Due.same(whole + " of nine, then levels without bits", whole, t.count(5));
        }
        TileForge wrong = Streams.of(3, 3, 0, PLAIN.repeat(4) + "00 11111" + PLAIN.repeat(4));
        wrong.decode();
        Due.same("those behind a wrong one did not come", 4, wrong.count(5));
    }

    private static void countOfFate() {
        TileForge t = Streams.of(1, 1, 0, PLAIN);
        t.decode();
        Due.same("whole", 0, t.count(6));
        t.damage(3, 0b00100010);
        t.decode();
        Due.same("17 levels", 2, t.count(6));
        t.damage(3, 0b00100000);
        t.decode();
        Due.same("16 levels, and no bit for them", 1, t.count(6));
        t.damage(3, 0b01000000);
        t.decode();
        Due.same("whole again", 0, t.count(6));
        TileForge first = Streams.of(2, 2, 0, "00 11111");
        first.decode();
        Due.same("wrong comes before the end of the bits", 2, first.count(6));
        TileForge great = Streams.of(1, 1, 0, "00 00001" + Streams.ones(26));
        great.decode();
        Due.same("a u above 8190", 2, great.count(6));
    }

    private static void countOfBitsRead() {
        TileForge t = Streams.of(3, 3, 0, "");
        t.decode();
        Due.same("the head alone", 24, t.count(7));
        TileForge one = Streams.of(1, 1, 0, PLAIN + "1" + "1".repeat(16));
        one.decode();
        Due.same("one block, bits behind it do not count", 31, one.count(7));
        TileForge nine = Streams.of(3, 3, 0, PLAIN.repeat(9));
        nine.decode();
        Due.same("nine blocks", 24 + 63, nine.count(7));
        TileForge full = Streams.of(1, 1, 4, "10 00001 111110 001");
        full.decode();
        Due.same("to the last bit", 40, full.count(7));
        TileForge coded = new TileForge();
        coded.fill(0, 0, 17, 50, -3);
        coded.encode(1);
        coded.decode();
        Due.same("those of encode", coded.count(2), coded.count(7));
    }

    private static void countLeavesOutTheLastBits() {
        TileForge ended = Streams.of(3, 3, 0, PLAIN.repeat(3) + "10 0");
        ended.decode();
        Due.same("ended in block 3", 24 + 21, ended.count(7));
        TileForge levels = Streams.of(2, 1, 0, PLAIN + "10 01111 0000 0000");
        levels.decode();
        Due.same("ended in the levels of block 1", 31, levels.count(7));
        TileForge wrong = Streams.of(2, 2, 0, PLAIN.repeat(2) + "10 10001" + "0".repeat(60));
        wrong.decode();
        Due.same("too many levels in block 2", 38, wrong.count(7));
        TileForge great = Streams.of(2, 2, 0, PLAIN + "10 00010 0000" + Streams.ones(26) + "0".repeat(60));
        great.decode();
        Due.same("a u above 8190 in block 1", 31, great.count(7));
        TileForge first = Streams.of(2, 2, 0, "10 10001");
        first.decode();
        Due.same("wrong in block 0", 24, first.count(7));
    }

    private static void countRefusesOthers() {
        TileForge t = new TileForge();
        int[] bad = {FAR_BELOW, -2, -1, 8, 9, 256, FAR};
        for (int what : bad) {
            Due.badArgument("count(" + what + ")", () -> t.count(what));
        }
        t.encode(0);
        t.decode();
        for (int what : bad) {
            Due.badArgument("count(" + what + "), later", () -> t.count(what));
        }
        Due.same("count(0)", 4, t.count(0));
        Due.same("count(7)", 57, t.count(7));
    }
}
