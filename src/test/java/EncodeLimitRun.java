/** What EncodeLimitTest runs, with a class whose streams have at most eight bytes. */
public final class EncodeLimitRun {
    public static void main(String[] args) {
        Due.sentence("promise 5", "IllegalStateException if there would be more than 400 (nothing changes then)",
                EncodeLimitRun::encodeRefusesMoreThanTheLimit);
        Due.end();
    }

    /**
     * Columns of 27 and so much more or less, foretold 127: at STEP 16 a level of -100 in the long form, and this one.
     * With 13 it has 7 bits and there are 64 in all, eight bytes; with 17 there is one bit more.
     */
    private static void columns(TileForge t, int more) {
        t.fill(0, 0, 27 + more, 0, 0);
        t.fill(2, 0, 27 - more, 0, 0);
    }

    private static void encodeRefusesMoreThanTheLimit() {
        TileForge t = new TileForge();
        t.encode(0);
        t.decode();
        Due.badIndex("the limit is eight", () -> t.damage(8, 0));
        columns(t, 13);
        Due.same("just the limit", 8, t.encode(4));
        Due.same("just the limit: bits", 64, t.count(2));
        columns(t, 17);
        String before = Snapshot.of(t);
        Due.badState("one bit more", () -> t.encode(4));
        Due.same("one bit more: nothing changed", before, Snapshot.of(t));
        columns(t, 13);
        t.pixel(0, 0, 255);
        before = Snapshot.of(t);
        Due.badState("far more", () -> t.encode(0));
        Due.same("far more: nothing changed", before, Snapshot.of(t));
        Due.badArgument("the coarseness is looked at first", () -> t.encode(6));
        t.size(12, 12);
        t.fill(0, 0, 0, 17, 29);
        Due.badState("a greater picture", () -> t.encode(0));
        Due.same("the copy is the one before", 27 + 13, t.get(1, 0, 3));
        Due.badIndex("and of the size before", () -> t.get(1, 4, 0));
        Due.same("the stream is the one before", 8, t.stream(-1));
        t.size(4, 4);
        t.fill(0, 0, 128, 0, 0);
        Due.same("a later one that is short enough", 4, t.encode(0));
        Due.same("its stream", "1 1 0 0", Streams.bytesOf(t));
        TileForge fresh = new TileForge();
        fresh.size(8, 8);
        fresh.fill(0, 0, 0, 17, 29);
        Due.badState("the first encode", () -> fresh.encode(0));
        Due.badState("there is no copy still", () -> fresh.get(1, 0, 0));
        Due.same("there is no stream still", 0, fresh.stream(-1));
        Due.same("there are no bits still", 0, fresh.count(2));
    }
}
