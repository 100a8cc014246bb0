/** Promises 1 to 4, 10 and 11: a new object, size, pixel, fill, get and apart. */
public final class PictureTest {
    public static void main(String[] args) {
        newObject();
        size();
        sizeLeavesTheRest();
        pixel();
        fill();
        fillRefuses();
        get();
        apart();
        apartRefuses();
        Due.end();
    }

    private static void newObject() {
        TileForge t = new TileForge();
        Due.same("new: width", 4, t.count(0));
        Due.same("new: height", 4, t.count(1));
        Due.same("new: pixels", "0 0 0 0 0 0 0 0 0 0 0 0 0 0 0 0", Streams.pixelsOf(t, 0, 4, 4));
        Due.same("new: bytes", 0, t.stream(-1));
        for (int what = 2; what <= 7; what++) {
            Due.same("new: count(" + what + ")", 0, t.count(what));
        }
        Due.badState("new: copy", () -> t.get(1, 0, 0));
        Due.badState("new: result", () -> t.get(2, 0, 0));
        Due.badIndex("new: mode of the copy", () -> t.mode(false, 0));
        Due.badIndex("new: mode of the result", () -> t.mode(true, 0));
        Due.unsupported("new: decode", () -> t.decode());
    }

    private static void size() {
        TileForge t = new TileForge();
        int[] sides = {4, 8, 12};
        for (int width : sides) {
            for (int height : sides) {
                t.pixel(0, 0, 77);
                Due.same("size(" + width + ", " + height + ")", width * height / 16, t.size(width, height));
                Due.same("width", width, t.count(0));
                Due.same("height", height, t.count(1));
                Due.same("all 0 again", 0, t.get(0, 0, 0));
                Due.same("the last pixel", 0, t.get(0, width - 1, height - 1));
                Due.badIndex("behind the last column", () -> t.get(0, width, 0));
                Due.badIndex("behind the last row", () -> t.get(0, 0, height));
            }
        }
        t.size(8, 4);
        t.pixel(7, 3, 9);
        int[] bad = {-4, 0, 1, 3, 5, 7, 10, 13, 16, Integer.MIN_VALUE, Integer.MAX_VALUE, 1 << 30};
        for (int side : bad) {
            Due.badArgument("size(" + side + ", 4)", () -> t.size(side, 4));
            Due.badArgument("size(4, " + side + ")", () -> t.size(4, side));
        }
        Due.same("a refused size changes no width", 8, t.count(0));
        Due.same("a refused size changes no pixel", 9, t.get(0, 7, 3));
    }

    private static void sizeLeavesTheRest() {
        TileForge t = new TileForge();
        t.fill(0, 0, 50, 1, 2);
        t.encode(0);
        t.decode();
        String bytes = Streams.bytesOf(t);
        t.size(12, 8);
        Due.same("the copy stays", 50 + 3 + 6, t.get(1, 3, 3));
        Due.same("the result stays", 50 + 3 + 6, t.get(2, 3, 3));
        Due.badIndex("the copy keeps its own size", () -> t.get(1, 4, 0));
        Due.badIndex("the result keeps its own size", () -> t.get(2, 0, 4));
        Due.same("the stream stays", bytes, Streams.bytesOf(t));
        Due.same("the bits stay", t.count(2), t.count(7));
    }

    private static void pixel() {
        TileForge t = new TileForge();
        t.size(12, 8);
        Due.same("pixel, first", 0, t.pixel(11, 7, 255));
        Due.same("pixel, again", 255, t.pixel(11, 7, 3));
        Due.same("pixel, third", 3, t.pixel(11, 7, 0));
        t.pixel(2, 5, 200);
        Due.same("x is from the left, y from above", 200, t.get(0, 2, 5));
        Due.same("only that pixel", 0, t.get(0, 5, 2));
        Due.badArgument("pixel v -1", () -> t.pixel(0, 0, -1));
        Due.badArgument("pixel v 256", () -> t.pixel(0, 0, 256));
        Due.badIndex("pixel x -1", () -> t.pixel(-1, 0, 0));
        Due.badIndex("pixel x 12", () -> t.pixel(12, 0, 0));
        Due.badIndex("pixel y -1", () -> t.pixel(0, -1, 0));
        Due.badIndex("pixel y 8", () -> t.pixel(0, 8, 0));
        Due.badIndex("pixel far away", () -> t.pixel(Integer.MAX_VALUE, Integer.MIN_VALUE, 0));
        Due.badArgument("pixel, the value is looked at first", () -> t.pixel(12, 0, 256));
        Due.same("a refused pixel changes nothing", 0, t.get(0, 0, 0));
    }

    private static void fill() {
        TileForge t = new TileForge();
        t.size(8, 4);
        Due.same("fill, whole", 32, t.fill(0, 0, 10, 1, 10));
        Due.same("fill, first", 10, t.get(0, 0, 0));
        Due.same("fill, g a column", 17, t.get(0, 7, 0));
        Due.same("fill, h a row", 40, t.get(0, 0, 3));
        Due.same("fill, both", 47, t.get(0, 7, 3));
        Due.same("fill, a part", 6, t.fill(5, 2, 100, 255, -255));
        Due.same("fill, its first", 100, t.get(0, 5, 2));
        Due.same("fill, clipped above", 255, t.get(0, 6, 2));
        Due.same("fill, clipped below", 0, t.get(0, 5, 3));
        Due.same("fill, clipped at the end alone", 100, t.get(0, 6, 3));
        Due.same("fill, the second more", 255, t.get(0, 7, 3));
        Due.same("fill, before it", 34, t.get(0, 4, 2));
        Due.same("fill, over it", 25, t.get(0, 5, 1));
        Due.same("fill, the last alone", 1, t.fill(7, 3, 0, 9, 9));
        Due.same("fill, last pixel", 0, t.get(0, 7, 3));
        t.fill(0, 0, 255, -255, 0);
        Due.same("fill, g down", "255 0 0 0 0 0 0 0", Streams.pixelsOf(t, 0, 8, 1));
    }

    private static void fillRefuses() {
        TileForge t = new TileForge();
        Due.badArgument("fill v -1", () -> t.fill(0, 0, -1, 0, 0));
        Due.badArgument("fill v 256", () -> t.fill(0, 0, 256, 0, 0));
        Due.badArgument("fill g 256", () -> t.fill(0, 0, 5, 256, 0));
        Due.badArgument("fill g -256", () -> t.fill(0, 0, 5, -256, 0));
        Due.badArgument("fill h 256", () -> t.fill(0, 0, 5, 0, 256));
        Due.badArgument("fill h -256", () -> t.fill(0, 0, 5, 0, -256));
        Due.badIndex("fill x 4", () -> t.fill(4, 0, 5, 0, 0));
        Due.badIndex("fill x -1", () -> t.fill(-1, 0, 5, 0, 0));
        Due.badIndex("fill y 4", () -> t.fill(0, 4, 5, 0, 0));
        Due.badIndex("fill y -1", () -> t.fill(0, -1, 5, 0, 0));
        Due.badArgument("fill, the values are looked at first", () -> t.fill(4, 0, 5, 0, 256));
        Due.same("a refused fill changes nothing", 0, t.get(0, 0, 0));
    }

    private static void get() {
        TileForge t = new TileForge();
        t.fill(0, 0, 3, 20, 7);
        t.encode(5);
        t.decode();
        t.fill(0, 0, 200, 0, 0);
        Due.same("get of the picture", 200, t.get(0, 0, 0));
        Due.same("the copy and the result are alike", Streams.pixelsOf(t, 1, 4, 4), Streams.pixelsOf(t, 2, 4, 4));
        Due.badArgument("get of -1", () -> t.get(-1, 0, 0));
        Due.badArgument("get of 3", () -> t.get(3, 0, 0));
        for (int of = 0; of <= 2; of++) {
            int chosen = of;
            Due.badIndex("get x 4", () -> t.get(chosen, 4, 0));
            Due.badIndex("get x -1", () -> t.get(chosen, -1, 0));
            Due.badIndex("get y 4", () -> t.get(chosen, 0, 4));
            Due.badIndex("get y -1", () -> t.get(chosen, 0, -1));
        }
        TileForge fresh = new TileForge();
        Due.badArgument("get, the choice is looked at first", () -> fresh.get(3, 99, 99));
        Due.badState("get, none is looked at before the place", () -> fresh.get(1, 99, 99));
    }

    private static void apart() {
        TileForge t = new TileForge();
        t.fill(0, 0, 100, 0, 0);
        t.encode(0);
        Due.same("apart, alike", 0.0, t.apart(0, 1));
        t.pixel(0, 0, 103);
        Due.same("apart, one pixel by 3", 9.0 / 16.0, t.apart(0, 1));
        Due.same("apart, the other way round", 9.0 / 16.0, t.apart(1, 0));
        t.fill(0, 0, 0, 0, 0);
        Due.same("apart, all by 100", 10000.0, t.apart(0, 1));
        t.decode();
        Due.same("apart, copy and result", 0.0, t.apart(1, 2));
        Due.same("apart, result and picture", 10000.0, t.apart(2, 0));
        TileForge wide = new TileForge();
        wide.size(12, 12);
        wide.encode(0);
        wide.fill(0, 0, 255, 0, 0);
        Due.same("apart, the most", 65025.0, wide.apart(0, 1));
        wide.fill(0, 0, 0, 0, 0);
        wide.pixel(11, 11, 1);
        Due.same("apart, the last pixel", 1.0 / 144.0, wide.apart(0, 1));
    }

    private static void apartRefuses() {
        TileForge t = new TileForge();
        Due.badArgument("apart -1", () -> t.apart(-1, 0));
        Due.badArgument("apart 3", () -> t.apart(0, 3));
        Due.badArgument("apart, the choice is looked at first", () -> t.apart(1, 3));
        Due.badState("apart, no copy", () -> t.apart(0, 1));
        Due.badState("apart, no result", () -> t.apart(2, 0));
        Due.badState("apart, none with itself", () -> t.apart(1, 1));
        Due.same("apart, the picture with itself", 0.0, t.apart(0, 0));
        t.encode(0);
        t.size(8, 4);
        Due.unsupported("apart, other widths", () -> t.apart(0, 1));
        Due.badState("apart, none is looked at before sizes", () -> t.apart(0, 2));
        t.size(4, 8);
        Due.unsupported("apart, other heights", () -> t.apart(1, 0));
        t.encode(0);
        t.size(8, 4);
        Due.unsupported("apart, as many pixels", () -> t.apart(0, 1));
    }
}
