/** The sentences of promises 1 to 4, 10 and 11 that name a boundary, each with a test of its own. */
public final class PictureCallsEdgeTest {
    private static final int FAR = Integer.MAX_VALUE;
    private static final int FAR_BELOW = Integer.MIN_VALUE;

    public static void main(String[] args) {
        promise1();
        promises2And3();
        promise4();
        promise10();
        promise11();
        Due.end();
    }

    private static void promise1() {
        Due.sentence("promise 1", "THE PICTURE is 4 by 4, all 0", PictureCallsEdgeTest::newPicture);
        Due.sentence("promise 1", "THE COPY and THE RESULT are none", PictureCallsEdgeTest::newHasNoCopyAndNoResult);
        Due.sentence("promise 1", "THE STREAM is empty", PictureCallsEdgeTest::newStreamIsEmpty);
    }

    private static void promises2And3() {
        Due.sentence("promise 2", "THE PICTURE becomes so wide and high, all 0: how many BLOCKS.",
                PictureCallsEdgeTest::sizeMakesAll0);
        Due.sentence("promise 2", "IllegalArgumentException if a number is not as said.",
                PictureCallsEdgeTest::sizeRefusesOtherNumbers);
        Due.sentence("promise 3", "PIXEL at x (from the left), y (from above) of THE PICTURE becomes v: what it was.",
                PictureCallsEdgeTest::pixelInEachCorner);
        Due.sentence("promise 3", "IllegalArgumentException if v is not 0 to 255",
                PictureCallsEdgeTest::pixelRefusesOtherValues);
        Due.sentence("promise 3", "IndexOutOfBoundsException if there is none",
                PictureCallsEdgeTest::pixelRefusesOtherPlaces);
    }

    private static void promise4() {
        Due.sentence("promise 4", "All PIXELS from x, y on to the right and down",
                PictureCallsEdgeTest::fillFromThePlaceOn);
        Due.sentence("promise 4", "become v and g more a column, h more a row, clipped",
                PictureCallsEdgeTest::fillIsClipped);
        Due.sentence("promise 4", "how many", PictureCallsEdgeTest::fillTellsHowMany);
        Due.sentence("promise 4", "Thrown as by pixel (v)", PictureCallsEdgeTest::fillRefusesAsPixelDoes);
        Due.sentence("promise 4", "g and h are -255 to 255", PictureCallsEdgeTest::fillRefusesOtherSlopes);
    }

    private static void promise10() {
        Due.sentence("promise 10", "The PIXEL at x, y of THE PICTURE (of 0), THE COPY (1), THE RESULT (2).",
                PictureCallsEdgeTest::getOfEach);
        Due.sentence("promise 10", "IllegalArgumentException for another of",
                PictureCallsEdgeTest::getRefusesAnotherOf);
        Due.sentence("promise 10", "IllegalStateException if that is none", PictureCallsEdgeTest::getRefusesNone);
        Due.sentence("promise 10", "IndexOutOfBoundsException if there is no such PIXEL",
                PictureCallsEdgeTest::getRefusesOtherPlaces);
    }

    private static void promise11() {
        Due.sentence("promise 11", "the mean of the squares of the differences of PIXELS, as a double",
                PictureCallsEdgeTest::apartFromLeastToMost);
        Due.sentence("promise 11", "IllegalArgumentException if a or b is not 0 to 2",
                PictureCallsEdgeTest::apartRefusesOtherNumbers);
        Due.sentence("promise 11", "IllegalStateException if one is none", PictureCallsEdgeTest::apartRefusesNone);
        Due.sentence("promise 11", "UnsupportedOperationException if they are of other WIDTHS or HEIGHTS",
                PictureCallsEdgeTest::apartRefusesOtherSizes);
    }

    /** A picture of 8 by 4, a copy and a result of 4 by 4, all with different pixels; q 0 loses nothing. */
    private static TileForge used() {
        TileForge t = new TileForge();
        t.fill(0, 0, 30, 5, 9);
        t.encode(0);
        t.decode();
        t.fill(0, 0, 130, 3, 1);
        t.encode(0);
        t.size(8, 4);
        t.fill(0, 0, 200, -11, 2);
        return t;
    }

    private static void newPicture() {
        TileForge t = new TileForge();
        Due.same("width", 4, t.count(0));
        Due.same("height", 4, t.count(1));
        Due.same("pixels", "0 0 0 0 0 0 0 0 0 0 0 0 0 0 0 0", Streams.pixelsOf(t, 0, 4, 4));
        Due.badIndex("a fifth column", () -> t.get(0, 4, 0));
        Due.badIndex("a fifth row", () -> t.get(0, 0, 4));
        Due.same("one block", 1, blocksCoded(t));
    }

    private static int blocksCoded(TileForge t) {
        t.encode(0);
        return 10 - Snapshot.modesOf(t, false).replaceAll("[0-3]", "").length();
    }

    private static void newHasNoCopyAndNoResult() {
        TileForge t = new TileForge();
        Due.badState("get of the copy", () -> t.get(1, 0, 0));
        Due.badState("get of the result", () -> t.get(2, 0, 0));
        Due.badState("apart with the copy", () -> t.apart(0, 1));
        Due.badState("apart with the result", () -> t.apart(2, 0));
        Due.same("modes of both", "---------- ----------",
                Snapshot.modesOf(t, false) + " " + Snapshot.modesOf(t, true));
        t.encode(0);
        Due.badState("encode makes no result", () -> t.get(2, 0, 0));
        TileForge reader = Streams.of(1, 1, 0, "0100000");
        reader.decode();
        Due.badState("decode makes no copy", () -> reader.get(1, 0, 0));
    }

    private static void newStreamIsEmpty() {
        TileForge t = new TileForge();
        Due.same("how many", 0, t.stream(-1));
        Due.badIndex("byte 0", () -> t.stream(0));
        Due.badArgument("cut(1)", () -> t.cut(1));
        Due.unsupported("decode", () -> t.decode());
        Due.same("the first comes behind", -1, t.damage(0, 0));
    }

    private static void sizeMakesAll0() {
        int[] sides = {4, 8, 12};
        for (int width : sides) {
            for (int height : sides) {
                TileForge t = new TileForge();
                t.size(12, 12);
                t.fill(0, 0, 255, 0, 0);
                String name = "size(" + width + ", " + height + ")";
                Due.same(name, width / 4 * (height / 4), t.size(width, height));
                Due.same(name + ": width and height", width + " " + height, t.count(0) + " " + t.count(1));
                Due.same(name + ": all 0", ("0 ".repeat(width * height)).trim(),
                        Streams.pixelsOf(t, 0, width, height));
                t.size(12, 12);
                Due.same(name + ": nothing left over behind it", 0, t.get(0, 11, 11));
            }
        }
        TileForge same = new TileForge();
        same.pixel(2, 2, 7);
        same.size(4, 4);
        Due.same("the same size again is all 0 too", 0, same.get(0, 2, 2));
    }

    private static void sizeRefusesOtherNumbers() {
        TileForge t = used();
        String before = Snapshot.of(t);
        int[] bad = {FAR_BELOW, -12, -8, -4, -1, 0, 1, 2, 3, 5, 6, 7, 9, 10, 11, 13, 16, 20, 1 << 30, FAR};
        for (int side : bad) {
            Due.badArgument("size(" + side + ", 4)", () -> t.size(side, 4));
            Due.badArgument("size(12, " + side + ")", () -> t.size(12, side));
            Due.badArgument("size(" + side + ", " + side + ")", () -> t.size(side, side));
        }
        Due.same("nothing changed", before, Snapshot.of(t));
    }

    private static void pixelInEachCorner() {
        TileForge t = new TileForge();
        t.size(12, 8);
        int[][] corners = {{0, 0}, {11, 0}, {0, 7}, {11, 7}};
        for (int[] at : corners) {
            String name = "pixel(" + at[0] + ", " + at[1] + ", ..)";
            Due.same(name + ", first", 0, t.pixel(at[0], at[1], 255));
            Due.same(name + ", again", 255, t.pixel(at[0], at[1], 0));
            Due.same(name + ", third", 0, t.pixel(at[0], at[1], at[0] + at[1] + 1));
        }
        for (int[] at : corners) {
            Due.same("get", at[0] + at[1] + 1, t.get(0, at[0], at[1]));
        }
    }

    private static void pixelRefusesOtherValues() {
        TileForge t = used();
        String before = Snapshot.of(t);
        int[] bad = {FAR_BELOW, -256, -1, 256, 257, 512, FAR};
        for (int v : bad) {
            Due.badArgument("pixel(0, 0, " + v + ")", () -> t.pixel(0, 0, v));
            Due.badArgument("pixel(7, 3, " + v + ")", () -> t.pixel(7, 3, v));
        }
        Due.badArgument("the value is looked at before the place", () -> t.pixel(8, 4, 256));
        Due.same("nothing changed", before, Snapshot.of(t));
    }

    private static void pixelRefusesOtherPlaces() {
        TileForge t = used();
        String before = Snapshot.of(t);
        int[][] bad = {{-1, 0}, {8, 0}, {11, 0}, {12, 0}, {FAR, 0}, {FAR_BELOW, 0}, {0, -1}, {0, 4}, {0, 11}, {0, 12},
            {0, FAR}, {0, FAR_BELOW}, {-1, -1}, {8, 4}, {-1, 1}, {8, -1}};
        for (int[] at : bad) {
            Due.badIndex("pixel(" + at[0] + ", " + at[1] + ", 0)", () -> t.pixel(at[0], at[1], 0));
        }
        Due.same("nothing changed", before, Snapshot.of(t));
    }

    private static void fillFromThePlaceOn() {
        TileForge t = new TileForge();
        t.size(8, 4);
        t.fill(5, 2, 9, 0, 0);
        String due = "0 0 0 0 0 0 0 0 " + "0 0 0 0 0 0 0 0 " + "0 0 0 0 0 9 9 9 " + "0 0 0 0 0 9 9 9";
        Due.same("from 5, 2 on", due, Streams.pixelsOf(t, 0, 8, 4));
        t.fill(7, 3, 8, 255, 255);
        Due.same("the last alone", due.substring(0, due.length() - 1) + "8", Streams.pixelsOf(t, 0, 8, 4));
        t.fill(0, 0, 255, 0, 0);
        Due.same("all", ("255 ".repeat(32)).trim(), Streams.pixelsOf(t, 0, 8, 4));
    }

    private static void fillIsClipped() {
        TileForge t = new TileForge();
        t.size(12, 12);
        t.fill(0, 0, 253, 1, 0);
        Due.same("up to 255", "253 254 255 255 255 255 255 255 255 255 255 255", Streams.pixelsOf(t, 0, 12, 1));
        t.fill(0, 0, 2, -1, 0);
        Due.same("down to 0", "2 1 0 0 0 0 0 0 0 0 0 0", Streams.pixelsOf(t, 0, 12, 1));
        t.fill(0, 0, 100, 255, -255);
        Due.same("clipped at the end alone", "100 255 0 100 0 0",
                t.get(0, 0, 0) + " " + t.get(0, 1, 0) + " " + t.get(0, 0, 1) + " " + t.get(0, 11, 11) + " "
                        + t.get(0, 10, 11) + " " + t.get(0, 0, 11));
        t.fill(0, 0, 255, 255, 255);
        Due.same("the most", 255, t.get(0, 11, 11));
        t.fill(0, 0, 0, -255, -255);
        Due.same("the least", 0, t.get(0, 11, 11));
        t.fill(0, 0, 1, 20, 3);
        Due.same("g a column, h a row", "21 4 " + (1 + 11 * 20) + " " + (1 + 11 * 3),
                t.get(0, 1, 0) + " " + t.get(0, 0, 1) + " " + t.get(0, 11, 0) + " " + t.get(0, 0, 11));
        t.fill(10, 10, 50, 20, 3);
        Due.same("more is counted from the place on", "50 70 53 73",
                t.get(0, 10, 10) + " " + t.get(0, 11, 10) + " " + t.get(0, 10, 11) + " " + t.get(0, 11, 11));
    }

    private static void fillTellsHowMany() {
        TileForge t = new TileForge();
        Due.same("4 by 4, all", 16, t.fill(0, 0, 0, 0, 0));
        t.size(12, 8);
        Due.same("12 by 8, all", 96, t.fill(0, 0, 0, 0, 0));
        Due.same("the last column", 8, t.fill(11, 0, 0, 0, 0));
        Due.same("the last row", 12, t.fill(0, 7, 0, 0, 0));
        Due.same("the last", 1, t.fill(11, 7, 0, 0, 0));
        Due.same("a part", 35, t.fill(5, 3, 0, 0, 0));
    }

    private static void fillRefusesAsPixelDoes() {
        TileForge t = used();
        String before = Snapshot.of(t);
        int[] values = {FAR_BELOW, -1, 256, FAR};
        for (int v : values) {
            Due.badArgument("fill(0, 0, " + v + ", ..)", () -> t.fill(0, 0, v, 0, 0));
        }
        int[][] places = {{-1, 0}, {8, 0}, {12, 0}, {FAR, 0}, {FAR_BELOW, 0}, {0, -1}, {0, 4}, {0, 12}, {0, FAR},
            {0, FAR_BELOW}, {8, 4}};
        for (int[] at : places) {
            Due.badIndex("fill(" + at[0] + ", " + at[1] + ", ..)", () -> t.fill(at[0], at[1], 5, 1, 1));
        }
        Due.badArgument("the value is looked at before the place", () -> t.fill(8, 4, 256, 0, 0));
        Due.same("nothing changed", before, Snapshot.of(t));
    }

    private static void fillRefusesOtherSlopes() {
        TileForge t = used();
        String before = Snapshot.of(t);
        int[] bad = {FAR_BELOW, -257, -256, 256, 257, FAR};
        for (int slope : bad) {
            Due.badArgument("g " + slope, () -> t.fill(0, 0, 5, slope, 0));
            Due.badArgument("h " + slope, () -> t.fill(0, 0, 5, 0, slope));
            Due.badArgument("g " + slope + " where it is not used", () -> t.fill(7, 3, 5, slope, 0));
        }
        Due.same("nothing changed", before, Snapshot.of(t));
        Due.same("g and h 255", 32, t.fill(0, 0, 5, 255, 255));
        Due.same("g and h -255", 32, t.fill(0, 0, 5, -255, -255));
    }

    private static void getOfEach() {
        TileForge t = used();
        Due.same("the first of each", "200 130 30", t.get(0, 0, 0) + " " + t.get(1, 0, 0) + " " + t.get(2, 0, 0));
        Due.same("the end of a row", "123 139 45", t.get(0, 7, 0) + " " + t.get(1, 3, 0) + " " + t.get(2, 3, 0));
        Due.same("the end of a column", "206 133 57", t.get(0, 0, 3) + " " + t.get(1, 0, 3) + " " + t.get(2, 0, 3));
        Due.same("the last of each", "129 142 72", t.get(0, 7, 3) + " " + t.get(1, 3, 3) + " " + t.get(2, 3, 3));
    }

    private static void getRefusesAnotherOf() {
        TileForge t = used();
        int[] bad = {FAR_BELOW, -1, 3, 4, FAR};
        for (int of : bad) {
            Due.badArgument("get(" + of + ", 0, 0)", () -> t.get(of, 0, 0));
            Due.badArgument("get(" + of + ", 8, 4)", () -> t.get(of, 8, 4));
        }
        TileForge fresh = new TileForge();
        Due.badArgument("before anything is made", () -> fresh.get(3, 0, 0));
    }

    private static void getRefusesNone() {
        TileForge t = new TileForge();
        Due.badState("no copy", () -> t.get(1, 0, 0));
        Due.badState("no result", () -> t.get(2, 3, 3));
        Due.badState("no copy, and no such place", () -> t.get(1, 4, -1));
        Due.badState("no result, and no such place", () -> t.get(2, FAR, 0));
        Due.unsupported("a bad stream", () -> t.decode());
        Due.badState("no result of a bad stream", () -> t.get(2, 0, 0));
        Due.badArgument("a refused encode", () -> t.encode(6));
        Due.badState("no copy of a refused encode", () -> t.get(1, 0, 0));
        t.encode(0);
        Due.same("a copy", 0, t.get(1, 0, 0));
        Due.badState("still no result", () -> t.get(2, 0, 0));
        t.decode();
        Due.same("a result", 0, t.get(2, 0, 0));
        t.cut(0);
        Due.same("the result stays without a stream", 0, t.get(2, 3, 3));
        Due.same("the copy stays without a stream", 0, t.get(1, 3, 3));
    }

    private static void getRefusesOtherPlaces() {
        TileForge t = used();
        int[] widths = {8, 4, 4};
        int[] last = {200 - 7 * 11 + 3 * 2, 130 + 3 * 3 + 3, 30 + 3 * 5 + 3 * 9};
        for (int of = 0; of <= 2; of++) {
            int chosen = of;
            int width = widths[of];
            Due.badIndex("x -1 of " + of, () -> t.get(chosen, -1, 0));
            Due.badIndex("x " + width + " of " + of, () -> t.get(chosen, width, 0));
            Due.badIndex("x far of " + of, () -> t.get(chosen, FAR, 0));
            Due.badIndex("x far below of " + of, () -> t.get(chosen, FAR_BELOW, 0));
            Due.badIndex("y -1 of " + of, () -> t.get(chosen, 0, -1));
            Due.badIndex("y 4 of " + of, () -> t.get(chosen, 0, 4));
            Due.badIndex("y far of " + of, () -> t.get(chosen, 0, FAR));
            Due.badIndex("y far below of " + of, () -> t.get(chosen, 0, FAR_BELOW));
            Due.same("the last of " + of + " is there", last[of], t.get(of, width - 1, 3));
        }
    }

    private static void apartFromLeastToMost() {
        TileForge t = new TileForge();
        Due.same("the picture with itself", 0.0, t.apart(0, 0));
        t.encode(0);
        Due.same("alike", 0.0, t.apart(0, 1));
        t.pixel(3, 3, 1);
        Due.same("one by 1", 0.0625, t.apart(0, 1));
        Due.same("one by 1, the other way round", 0.0625, t.apart(1, 0));
        t.fill(0, 0, 255, 0, 0);
        Due.same("all by 255", 65025.0, t.apart(1, 0));
        TileForge great = new TileForge();
        great.size(12, 12);
        great.encode(0);
        great.pixel(0, 0, 1);
        Due.same("one of 144 by 1", 1.0 / 144.0, great.apart(0, 1));
        great.pixel(11, 11, 1);
        great.pixel(5, 7, 1);
        Due.same("three of 144 by 1", 3.0 / 144.0, great.apart(1, 0));
        great.fill(0, 0, 255, 0, 0);
        Due.same("all of 144 by 255", 65025.0, great.apart(0, 1));
        great.pixel(11, 0, 254);
        Due.same("all but one", (143.0 * 65025.0 + 254.0 * 254.0) / 144.0, great.apart(0, 1));
        TileForge wide = new TileForge();
        wide.size(12, 4);
        wide.encode(0);
        wide.fill(11, 0, 0, 0, 3);
        Due.same("the last column of 12 by 4", (9.0 + 36.0 + 81.0) / 48.0, wide.apart(0, 1));
    }

    private static void apartRefusesOtherNumbers() {
        TileForge t = used();
        int[] bad = {FAR_BELOW, -1, 3, FAR};
        for (int of : bad) {
            Due.badArgument("apart(" + of + ", 0)", () -> t.apart(of, 0));
            Due.badArgument("apart(0, " + of + ")", () -> t.apart(0, of));
            Due.badArgument("apart(" + of + ", 1), of other sizes", () -> t.apart(of, 1));
        }
        TileForge fresh = new TileForge();
        Due.badArgument("the number is looked at before what is none", () -> fresh.apart(1, 3));
        Due.badArgument("so is the first", () -> fresh.apart(-1, 2));
    }

    private static void apartRefusesNone() {
        TileForge t = new TileForge();
        for (int of = 0; of <= 2; of++) {
            int other = of;
            Due.badState("apart(" + of + ", 2)", () -> t.apart(other, 2));
            Due.badState("apart(2, " + of + ")", () -> t.apart(2, other));
        }
        Due.badState("apart(1, 1)", () -> t.apart(1, 1));
        Due.badState("apart(0, 1)", () -> t.apart(0, 1));
        t.encode(0);
        Due.badState("apart(1, 2), no result", () -> t.apart(1, 2));
        t.size(8, 8);
        Due.badState("apart(0, 2), no result, before the sizes", () -> t.apart(0, 2));
        TileForge reader = Streams.of(2, 1, 0, "0100000".repeat(2));
        reader.decode();
        Due.badState("apart(1, 2), no copy", () -> reader.apart(1, 2));
        Due.badState("apart(2, 1), no copy", () -> reader.apart(2, 1));
    }

    private static void apartRefusesOtherSizes() {
        TileForge t = new TileForge();
        t.size(8, 4);
        t.encode(0);
        t.decode();
        t.size(12, 4);
        Due.unsupported("another width", () -> t.apart(0, 1));
        Due.unsupported("another width, the other way round", () -> t.apart(2, 0));
        t.size(8, 8);
        Due.unsupported("another height", () -> t.apart(0, 2));
        t.size(4, 8);
        Due.unsupported("as many pixels", () -> t.apart(1, 0));
        Due.same("copy and result are of one size", 0.0, t.apart(1, 2));
        t.encode(0);
        Due.unsupported("copy and result are not", () -> t.apart(1, 2));
        Due.same("each with itself", 0.0, t.apart(2, 2) + t.apart(1, 1) + t.apart(0, 0));
        t.size(8, 4);
        Due.same("the same size again", 0.0, t.apart(0, 2));
    }
}
