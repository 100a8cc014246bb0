/** The sentences of promises 5 to 9 that name a boundary, each with a test of its own; EncodeLimitTest has one more. */
public final class StreamCallsEdgeTest {
    private static final int FAR = Integer.MAX_VALUE;
    private static final int FAR_BELOW = Integer.MIN_VALUE;

    public static void main(String[] args) {
        promises5And6();
        promise7();
        promise8();
        promise9();
        Due.end();
    }

    private static void promises5And6() {
        Due.sentence("promise 5", "THE STREAM and THE COPY become that of it: how many BYTES.",
                StreamCallsEdgeTest::encodeReplacesStreamAndCopy);
        Due.sentence("promise 5", "IllegalArgumentException for another q", StreamCallsEdgeTest::encodeRefusesAnotherQ);
        Due.sentence("promise 6", "THE STREAM is read: THE RESULT, and how many BLOCKS came out of it.",
                StreamCallsEdgeTest::decodeFromNoBlockToAll);
        Due.sentence("promise 6", "UnsupportedOperationException if it is BAD (nothing changes then).",
                StreamCallsEdgeTest::decodeRefusesABadStream);
    }

    private static void promise7() {
        Due.sentence("promise 7", "BYTE k of THE STREAM", StreamCallsEdgeTest::streamFirstAndLast);
        Due.sentence("promise 7", "with k = -1 how many", StreamCallsEdgeTest::streamTellsHowMany);
        Due.sentence("promise 7", "IndexOutOfBoundsException if there is none.",
                StreamCallsEdgeTest::streamRefusesOtherPlaces);
    }

    private static void promise8() {
        Due.sentence("promise 8", "BYTE k of THE STREAM becomes b (0 to 255)", StreamCallsEdgeTest::damageInPlace);
        Due.sentence("promise 8", "with k as many as there are it comes behind", StreamCallsEdgeTest::damageBehind);
        Due.sentence("promise 8", "what it was (-1)", StreamCallsEdgeTest::damageTellsWhatItWas);
        Due.sentence("promise 8", "IllegalArgumentException for another b", StreamCallsEdgeTest::damageRefusesAnotherB);
        Due.sentence("promise 8", "IndexOutOfBoundsException for another k",
                StreamCallsEdgeTest::damageRefusesAnotherK);
        Due.sentence("promise 8", "or if it would come behind 400", StreamCallsEdgeTest::damageRefusesBehind400);
    }

    private static void promise9() {
        Due.sentence("promise 9", "THE STREAM has its first n BYTES alone", StreamCallsEdgeTest::cutLeavesTheFirst);
        Due.sentence("promise 9", "how many went", StreamCallsEdgeTest::cutTellsHowManyWent);
        Due.sentence("promise 9", "IllegalArgumentException if n is not 0 to their number.",
                StreamCallsEdgeTest::cutRefusesOtherNumbers);
    }

    /** A picture, a copy and a result of 4 by 4, all with different pixels, and a stream of eight bytes. */
    private static TileForge used() {
        TileForge t = new TileForge();
        t.fill(0, 0, 30, 5, 9);
        t.encode(3);
        t.decode();
        t.fill(0, 0, 0, 0, 0);
        t.encode(0);
        t.fill(0, 0, 130, 3, 1);
        return t;
    }

    private static void encodeReplacesStreamAndCopy() {
        TileForge t = new TileForge();
        t.size(12, 12);
        t.fill(0, 0, 7, 23, 11);
        int many = t.encode(0);
        Due.same("twelve by twelve: how many", many, t.stream(-1));
        t.size(4, 4);
        t.fill(0, 0, 128, 0, 0);
        Due.same("the least: how many", 4, t.encode(0));
        Due.same("the least: the stream", "1 1 0 0", Streams.bytesOf(t));
        Due.badIndex("no byte of the longer one is left", () -> t.stream(4));
        Due.same("the least: the copy", 0.0, t.apart(0, 1));
        Due.badIndex("the copy has no longer twelve columns", () -> t.get(1, 4, 0));
        Due.same("the least: one mode", "0---------", Snapshot.modesOf(t, false));
        t.damage(4, 99);
        t.damage(0, 3);
        Due.same("behind damage: how many", 4, t.encode(5));
        Due.same("behind damage: the stream", "1 1 5 0", Streams.bytesOf(t));
        t.cut(0);
        Due.same("behind a cut: how many", 4, t.encode(1));
        Due.same("behind a cut: the stream", "1 1 1 0", Streams.bytesOf(t));
        Due.badState("no result is made", () -> t.get(2, 0, 0));
        TileForge full = fullRow();
        Due.same("behind 400 bytes: how many", 8, full.encode(0));
        Due.same("behind 400 bytes: the stream", "1 1 0 67 255 231 240 0", Streams.bytesOf(full));
    }

    private static TileForge fullRow() {
        TileForge t = new TileForge();
        for (int k = 0; k < 400; k++) {
            t.damage(k, 255 - k % 256);
        }
        return t;
    }

    private static void encodeRefusesAnotherQ() {
        TileForge t = used();
        String before = Snapshot.of(t);
        int[] bad = {FAR_BELOW, -1, 6, 7, 32, 256, FAR};
        for (int q : bad) {
            Due.badArgument("encode(" + q + ")", () -> t.encode(q));
        }
        Due.same("nothing changed", before, Snapshot.of(t));
        for (int q = 0; q <= 5; q++) {
            t.encode(q);
            Due.same("encode(" + q + ")", q, t.stream(2));
        }
    }

    private static void decodeFromNoBlockToAll() {
        for (int whole = 0; whole <= 9; whole++) {
            // Behind those there is a block of 16 levels without a bit for them.
            TileForge t = Streams.of(3, 3, 2, "0100000".repeat(whole) + "00 10000");
            Due.same(whole + " blocks: decode", whole, t.decode());
            Due.same(whole + " blocks: again", whole, t.decode());
            String modes = "1".repeat(whole) + "-".repeat(10 - whole);
            Due.same(whole + " blocks: modes", modes, Snapshot.modesOf(t, true));
            Due.same(whole + " blocks: the first pixel", whole == 0 ? 128 : 127, t.get(2, 0, 0));
            Due.same(whole + " blocks: the last pixel", whole == 9 ? 127 : 128, t.get(2, 11, 11));
        }
        TileForge t = used();
        String stream = Streams.bytesOf(t);
        Due.same("the stream of used: decode", 1, t.decode());
        Due.same("the result is now that of the stream", 0, t.get(2, 3, 3));
        Due.same("the stream stays", stream, Streams.bytesOf(t));
        Due.same("the copy stays", 0, t.get(1, 3, 3));
        Due.same("the picture stays", 142, t.get(0, 3, 3));
    }

    private static void decodeRefusesABadStream() {
        int[][] bad = {{0, 0}, {0, 4}, {1, 0}, {1, 4}, {2, 6}, {2, 255}};
        for (int[] place : bad) {
            TileForge t = used();
            t.damage(place[0], place[1]);
            String before = Snapshot.of(t);
            Due.unsupported("byte " + place[0] + " is " + place[1], () -> t.decode());
            Due.same("byte " + place[0] + " is " + place[1] + ": nothing changed", before, Snapshot.of(t));
        }
        for (int n = 0; n <= 2; n++) {
            TileForge t = used();
            t.cut(n);
            String before = Snapshot.of(t);
            Due.unsupported(n + " bytes", () -> t.decode());
            Due.same(n + " bytes: nothing changed", before, Snapshot.of(t));
        }
        TileForge fresh = new TileForge();
        Due.unsupported("a new object", () -> fresh.decode());
        Due.badState("a new object has no result then", () -> fresh.get(2, 0, 0));
    }

    private static void streamFirstAndLast() {
        TileForge t = new TileForge();
        Streams.load(t, 255, 0, 7);
        Due.same("the first", 255, t.stream(0));
        Due.same("the second", 0, t.stream(1));
        Due.same("the last", 7, t.stream(2));
        TileForge full = fullRow();
        Due.same("byte 399", 255 - 399 % 256, full.stream(399));
        Due.same("byte 0 of 400", 255, full.stream(0));
    }

    private static void streamTellsHowMany() {
        TileForge t = new TileForge();
        Due.same("none", 0, t.stream(-1));
        t.damage(0, 9);
        Due.same("one", 1, t.stream(-1));
        t.encode(0);
        Due.same("behind encode", 8, t.stream(-1));
        t.cut(3);
        Due.same("behind a cut", 3, t.stream(-1));
        Due.same("400", 400, fullRow().stream(-1));
    }

    private static void streamRefusesOtherPlaces() {
        TileForge t = new TileForge();
        Due.badIndex("byte 0 of none", () -> t.stream(0));
        Due.badIndex("byte -2 of none", () -> t.stream(-2));
        Streams.load(t, 1, 2, 3);
        int[] bad = {FAR_BELOW, -400, -3, -2, 3, 4, 399, 400, FAR};
        for (int k : bad) {
            Due.badIndex("stream(" + k + ") of three", () -> t.stream(k));
        }
        t.cut(2);
        Due.badIndex("the byte cut off", () -> t.stream(2));
        TileForge full = fullRow();
        Due.badIndex("byte 400 of 400", () -> full.stream(400));
    }

    private static void damageInPlace() {
        TileForge t = new TileForge();
        Streams.load(t, 1, 2, 3);
        t.damage(0, 0);
        t.damage(2, 255);
        Due.same("the first and the last", "0 2 255", Streams.bytesOf(t));
        Due.same("still three", 3, t.stream(-1));
        TileForge used = used();
        used.damage(3, 63);
        Due.same("the copy stays", 0, used.get(1, 0, 0));
        Due.same("the bits of encode stay", 57, used.count(2));
    }

    private static void damageBehind() {
        TileForge t = new TileForge();
        t.damage(0, 255);
        Due.same("behind none", "255", Streams.bytesOf(t));
        t.damage(1, 0);
        Due.same("behind one", "255 0", Streams.bytesOf(t));
        t.encode(0);
        t.damage(8, 77);
        Due.same("behind those of encode", "1 1 0 67 255 231 240 0 77", Streams.bytesOf(t));
        t.cut(4);
        t.damage(4, 5);
        Due.same("behind a cut", "1 1 0 67 5", Streams.bytesOf(t));
    }

    private static void damageTellsWhatItWas() {
        TileForge t = new TileForge();
        Due.same("behind none", -1, t.damage(0, 255));
        Due.same("the byte before", 255, t.damage(0, 0));
        Due.same("the byte before, 0", 0, t.damage(0, 4));
        Due.same("behind one", -1, t.damage(1, 9));
        t.cut(1);
        Due.same("a byte that was cut off is none", -1, t.damage(1, 8));
        t.encode(0);
        Due.same("a byte of encode", 67, t.damage(3, 1));
        Due.same("behind those of encode", -1, t.damage(8, 1));
    }

    private static void damageRefusesAnotherB() {
        TileForge t = used();
        String before = Snapshot.of(t);
        int[] bad = {FAR_BELOW, -256, -1, 256, 257, FAR};
        for (int b : bad) {
            Due.badArgument("damage(0, " + b + ")", () -> t.damage(0, b));
            Due.badArgument("damage(8, " + b + "), behind", () -> t.damage(8, b));
            Due.badArgument("damage(9, " + b + "), the byte is looked at first", () -> t.damage(9, b));
        }
        Due.same("nothing changed", before, Snapshot.of(t));
    }

    private static void damageRefusesAnotherK() {
        TileForge t = used();
        String before = Snapshot.of(t);
        int[] bad = {FAR_BELOW, -2, -1, 9, 10, 399, 400, 401, FAR};
        for (int k : bad) {
            Due.badIndex("damage(" + k + ", 0) of eight", () -> t.damage(k, 0));
        }
        Due.same("nothing changed", before, Snapshot.of(t));
        TileForge fresh = new TileForge();
        Due.badIndex("damage(1, 0) of none", () -> fresh.damage(1, 0));
        Due.same("none still", 0, fresh.stream(-1));
    }

    private static void damageRefusesBehind400() {
        TileForge t = new TileForge();
        for (int k = 0; k < 399; k++) {
            t.damage(k, 1);
        }
        Due.same("the last one", -1, t.damage(399, 2));
        Due.badIndex("behind 400", () -> t.damage(400, 3));
        Due.badIndex("behind 400, again", () -> t.damage(400, 0));
        Due.badIndex("farther", () -> t.damage(401, 0));
        Due.same("400 still", 400, t.stream(-1));
        Due.same("the last one is as it was", 2, t.damage(399, 4));
        Due.same("and becomes another", 4, t.stream(399));
        Due.same("one cut off", 1, t.cut(399));
        Due.same("there is room again", -1, t.damage(399, 5));
        Due.badArgument("the byte is looked at first", () -> t.damage(400, 256));
    }

    private static void cutLeavesTheFirst() {
        TileForge t = new TileForge();
        Streams.load(t, 5, 6, 7, 8);
        t.cut(4);
        Due.same("all", "5 6 7 8", Streams.bytesOf(t));
        t.cut(3);
        Due.same("three", "5 6 7", Streams.bytesOf(t));
        t.cut(1);
        Due.same("one", "5", Streams.bytesOf(t));
        t.cut(0);
        Due.same("none", "", Streams.bytesOf(t));
        TileForge used = used();
        used.cut(3);
        Due.same("the copy stays", 0, used.get(1, 3, 3));
        Due.same("the bits of encode stay", 57, used.count(2));
        Due.same("what was cut off is not read", 0, used.decode());
        Due.same("it ended there", 1, used.count(6));
    }

    private static void cutTellsHowManyWent() {
        TileForge t = new TileForge();
        Due.same("none of none", 0, t.cut(0));
        Streams.load(t, 5, 6, 7, 8);
        Due.same("none of four", 0, t.cut(4));
        Due.same("one of four", 1, t.cut(3));
        Due.same("all three", 3, t.cut(0));
        TileForge full = fullRow();
        Due.same("none of 400", 0, full.cut(400));
        Due.same("all 400", 400, full.cut(0));
    }

    private static void cutRefusesOtherNumbers() {
        TileForge t = used();
        String before = Snapshot.of(t);
        int[] bad = {FAR_BELOW, -2, -1, 9, 10, 400, 401, FAR};
        for (int n : bad) {
            Due.badArgument("cut(" + n + ") of eight", () -> t.cut(n));
        }
        Due.same("nothing changed", before, Snapshot.of(t));
        Due.same("cut(8) of eight", 0, t.cut(8));
        Due.same("cut(0) of eight", 8, t.cut(0));
        TileForge fresh = new TileForge();
        Due.badArgument("cut(1) of none", () -> fresh.cut(1));
        Due.badArgument("cut(-1) of none", () -> fresh.cut(-1));
        TileForge full = fullRow();
        Due.badArgument("cut(401) of 400", () -> full.cut(401));
    }
}
