/** Promises 7 to 9: stream, damage and cut. */
public final class StreamTest {
    public static void main(String[] args) {
        stream();
        damage();
        damageUpToTheLimit();
        cut();
        cutBytesAreGone();
        Due.end();
    }

    private static void stream() {
        TileForge t = new TileForge();
        Due.same("stream(-1), empty", 0, t.stream(-1));
        Due.badIndex("stream(0), empty", () -> t.stream(0));
        Streams.load(t, 7, 0, 255);
        Due.same("stream(-1)", 3, t.stream(-1));
        Due.same("stream(0)", 7, t.stream(0));
        Due.same("stream(1)", 0, t.stream(1));
        Due.same("stream(2)", 255, t.stream(2));
        Due.badIndex("stream(3)", () -> t.stream(3));
        Due.badIndex("stream(-2)", () -> t.stream(-2));
        Due.badIndex("stream, far", () -> t.stream(Integer.MAX_VALUE));
        Due.badIndex("stream, far before", () -> t.stream(Integer.MIN_VALUE));
    }

    private static void damage() {
        TileForge t = new TileForge();
        Due.same("damage behind the last", -1, t.damage(0, 11));
        Due.same("damage behind the last, again", -1, t.damage(1, 22));
        Due.same("damage in place", 11, t.damage(0, 33));
        Due.same("damage the last", 22, t.damage(1, 0));
        Due.same("bytes", "33 0", Streams.bytesOf(t));
        Due.badArgument("damage b -1", () -> t.damage(0, -1));
        Due.badArgument("damage b 256", () -> t.damage(0, 256));
        Due.badIndex("damage k -1", () -> t.damage(-1, 0));
        Due.badIndex("damage k behind the end", () -> t.damage(3, 0));
        Due.badIndex("damage k far", () -> t.damage(Integer.MAX_VALUE, 0));
        Due.badArgument("damage, the byte is looked at first", () -> t.damage(-1, 256));
        Due.same("a refused damage changes nothing", "33 0", Streams.bytesOf(t));
    }

    private static void damageUpToTheLimit() {
        TileForge t = new TileForge();
        for (int k = 0; k < 400; k++) {
            Due.same("damage(" + k + ")", -1, t.damage(k, k % 256));
        }
        Due.badIndex("damage behind 400", () -> t.damage(400, 0));
        Due.same("400 bytes", 400, t.stream(-1));
        Due.same("byte 399", 143, t.stream(399));
        Due.same("damage(399)", 143, t.damage(399, 1));
        Due.same("cut one", 1, t.cut(399));
        Due.same("damage(399), behind the last", -1, t.damage(399, 2));
    }

    private static void cut() {
        TileForge t = new TileForge();
        Due.same("cut(0), empty", 0, t.cut(0));
        Due.badArgument("cut(1), empty", () -> t.cut(1));
        Streams.load(t, 1, 2, 3, 4, 5);
        Due.badArgument("cut(6)", () -> t.cut(6));
        Due.badArgument("cut(-1)", () -> t.cut(-1));
        Due.same("a refused cut changes nothing", "1 2 3 4 5", Streams.bytesOf(t));
        Due.same("cut(5)", 0, t.cut(5));
        Due.same("cut(2)", 3, t.cut(2));
        Due.same("the first two", "1 2", Streams.bytesOf(t));
        Due.badIndex("stream(2)", () -> t.stream(2));
        Due.same("cut(0)", 2, t.cut(0));
        Due.same("none", 0, t.stream(-1));
    }

    private static void cutBytesAreGone() {
        TileForge t = new TileForge();
        t.encode(0);
        t.decode();
        t.cut(3);
        Due.same("the result stays", 0, t.get(2, 0, 0));
        Due.same("the copy stays", 0, t.get(1, 0, 0));
        Due.same("the bits of encode stay", 57, t.count(2));
        Due.same("the bits of decode stay", 57, t.count(7));
        Due.same("decode without the cut bytes", 0, t.decode());
        Due.same("it ended", 1, t.count(6));
    }
}
