/**
 * A codec for small pictures in blocks of 4 by 4: a coder, a reader that does the same again, and a measure of how
 * far pictures are apart. ../shared/DOC.md says what each call promises; the names here are the document's terms.
 */
public final class TileForge {
    private static final int BLOCK_SIDE = 4;
    private static final int BLOCK_PIXELS = 16;
    private static final int MOST_SIDE = 12;
    private static final int MOST_BLOCKS = 9;
    private static final int MOST_PIXEL = 255;
    private static final int MOST_SLOPE = 255;
    private static final int MOST_COARSENESS = 5;
    private static final int MODES = 4;

    private static final int NO_ROW = 127;
    private static final int NO_COLUMN = 129;
    private static final int GREY = 128;

    private static final int MOST_BYTES = 400;
    private static final int MOST_BYTE = 255;
    private static final int BYTE_BITS = 8;
    private static final int HEAD_BYTES = 3;
    private static final int MODE_BITS = 2;
    private static final int LENGTH_BITS = 5;
    private static final int MOST_ONES = 12;
    private static final int PLAIN_BITS = 14;
    private static final int MOST_U = 8190;

    private static final int FIRST_SUM = 8;
    private static final int FIRST_N = 1;
    private static final int HALVED_AT_N = 16;
    private static final int MOST_K = 10;

    private static final int WHOLE = 0;
    private static final int ENDED = 1;
    private static final int WRONG = 2;
    private static final int NO_BIT = -1;

    private final Picture picture;
    private final Picture copy;
    private final Picture result;
    private final ByteRow row;
    private final Coder coder;
    private final RowReader rowReader;

    private int bitsCoded;
    private int levelsCoded;
    private int greatestLevel;
    private int blocksRead;
    private int fate;
    private int bitsRead;

    public TileForge() {
        picture = new Picture();
        picture.begin(BLOCK_SIDE, BLOCK_SIDE);
        copy = new Picture();
        result = new Picture();
        row = new ByteRow();
        coder = new Coder();
        rowReader = new RowReader();
    }

    public int size(int width, int height) throws IllegalArgumentException {
        if (!isSide(width) || !isSide(height)) {
            throw new IllegalArgumentException();
        }
        picture.begin(width, height);
        return (width / BLOCK_SIDE) * (height / BLOCK_SIDE);
    }

    public int pixel(int x, int y, int v) throws IllegalArgumentException, IndexOutOfBoundsException {
        if (!isPixel(v)) {
            throw new IllegalArgumentException();
        }
        if (!picture.has(x, y)) {
            throw new IndexOutOfBoundsException();
        }
        int before = picture.look(x, y);
        picture.put(x, y, v);
        return before;
    }

    public int fill(int x, int y, int v, int g, int h) throws IllegalArgumentException, IndexOutOfBoundsException {
        if (!isPixel(v) || !isSlope(g) || !isSlope(h)) {
            throw new IllegalArgumentException();
        }
        if (!picture.has(x, y)) {
            throw new IndexOutOfBoundsException();
        }
        int filled = 0;
        for (int down = y; down < picture.height; down++) {
            for (int right = x; right < picture.width; right++) {
                picture.put(right, down, clipped(v + g * (right - x) + h * (down - y)));
                filled++;
            }
        }
        return filled;
    }

    public int encode(int q) throws IllegalArgumentException, IllegalStateException {
        if (!isCoarseness(q)) {
            throw new IllegalArgumentException();
        }
        coder.makeDraft(picture, q);
        if (coder.out.bytesNeeded() > MOST_BYTES) {
            throw new IllegalStateException();
        }
        takeDraft();
        return row.length;
    }

    public int decode() throws UnsupportedOperationException {
        if (!row.hasGoodHead()) {
            throw new UnsupportedOperationException();
        }
        fate = rowReader.readInto(result, row);
        blocksRead = result.modesKnown;
        bitsRead = rowReader.bitsOfBlocks;
        return blocksRead;
    }

    public int stream(int k) throws IndexOutOfBoundsException {
        if (k == -1) {
            return row.length;
        }
        if (!row.has(k)) {
            throw new IndexOutOfBoundsException();
        }
        return row.bytes[k];
    }

    public int damage(int k, int b) throws IllegalArgumentException, IndexOutOfBoundsException {
        if (b < 0 || b > MOST_BYTE) {
            throw new IllegalArgumentException();
        }
        if (k < 0 || k > row.length || k >= MOST_BYTES) {
            throw new IndexOutOfBoundsException();
        }
        int before = -1;
        if (k < row.length) {
            before = row.bytes[k];
        } else {
            row.length = k + 1;
        }
        row.bytes[k] = b;
        return before;
    }

    public int cut(int n) throws IllegalArgumentException {
        if (n < 0 || n > row.length) {
            throw new IllegalArgumentException();
        }
        int gone = row.length - n;
        row.length = n;
        return gone;
    }

    public int get(int of, int x, int y)
            throws IllegalArgumentException, IllegalStateException, IndexOutOfBoundsException {
        if (!isChoice(of)) {
            throw new IllegalArgumentException();
        }
        Picture chosen = choose(of);
        if (!chosen.made) {
            throw new IllegalStateException();
        }
        if (!chosen.has(x, y)) {
            throw new IndexOutOfBoundsException();
        }
        return chosen.look(x, y);
    }

    public double apart(int a, int b)
            throws IllegalArgumentException, IllegalStateException, UnsupportedOperationException {
        if (!isChoice(a) || !isChoice(b)) {
            throw new IllegalArgumentException();
        }
        Picture one = choose(a);
        Picture other = choose(b);
        if (!one.made || !other.made) {
            throw new IllegalStateException();
        }
        if (one.width != other.width || one.height != other.height) {
            throw new UnsupportedOperationException();
        }
        return meanOfSquares(one, other);
    }

    public int mode(boolean reader, int k) throws IndexOutOfBoundsException {
        Picture chosen = reader ? result : copy;
        if (!chosen.hasMode(k)) {
            throw new IndexOutOfBoundsException();
        }
        return chosen.modes[k];
    }

    public int count(int what) throws IllegalArgumentException {
        switch (what) {
            case 0:
                return picture.width;
            case 1:
                return picture.height;
            case 2:
                return bitsCoded;
            case 3:
                return levelsCoded;
            case 4:
                return greatestLevel;
            case 5:
                return blocksRead;
            case 6:
                return fate;
            case 7:
                return bitsRead;
            default:
                throw new IllegalArgumentException();
        }
    }

    private void takeDraft() {
        copy.become(coder.draft);
        row.become(coder.out);
        bitsCoded = coder.out.bits;
        levelsCoded = coder.levelsNotZero;
        greatestLevel = coder.greatest;
    }

    private Picture choose(int of) {
        if (of == 0) {
            return picture;
        }
        return of == 1 ? copy : result;
    }

    private static boolean isSide(int side) {
        return side == BLOCK_SIDE || side == 2 * BLOCK_SIDE || side == MOST_SIDE;
    }

    private static boolean isPixel(int v) {
        return v >= 0 && v <= MOST_PIXEL;
    }

    private static boolean isSlope(int slope) {
        return slope >= -MOST_SLOPE && slope <= MOST_SLOPE;
    }

    private static boolean isCoarseness(int q) {
        return q >= 0 && q <= MOST_COARSENESS;
    }

    private static boolean isChoice(int of) {
        return of >= 0 && of <= 2;
    }

    private static int clipped(int v) {
        if (v < 0) {
            return 0;
        }
        return v > MOST_PIXEL ? MOST_PIXEL : v;
    }

    private static double meanOfSquares(Picture one, Picture other) {
        int sum = 0;
        int pixels = 0;
        for (int y = 0; y < one.height; y++) {
            for (int x = 0; x < one.width; x++) {
                int difference = one.look(x, y) - other.look(x, y);
                sum += difference * difference;
                pixels++;
            }
        }
        return pixels == 0 ? 0.0 : (double) sum / (double) pixels;
    }

    private static final class Picture {
        // The rows lie MOST_SIDE apart whatever the width is, so that an index never depends on the size.
        final int[] pixels = new int[MOST_SIDE * MOST_SIDE];
        final int[] modes = new int[MOST_BLOCKS];
        boolean made;
        int width;
        int height;
        int modesKnown;

        void begin(int newWidth, int newHeight) {
            made = true;
            width = newWidth;
            height = newHeight;
            modesKnown = 0;
            for (int i = 0; i < pixels.length; i++) {
                pixels[i] = 0;
            }
        }

        void become(Picture other) {
            made = other.made;
            width = other.width;
            height = other.height;
            modesKnown = other.modesKnown;
            System.arraycopy(other.pixels, 0, pixels, 0, MOST_SIDE * MOST_SIDE);
            System.arraycopy(other.modes, 0, modes, 0, MOST_BLOCKS);
        }

        boolean has(int x, int y) {
            return x >= 0 && x < width && x < MOST_SIDE && y >= 0 && y < height && y < MOST_SIDE;
        }

        int look(int x, int y) {
            return has(x, y) ? pixels[y * MOST_SIDE + x] : 0;
        }

        void put(int x, int y, int v) {
            if (has(x, y)) {
                pixels[y * MOST_SIDE + x] = v;
            }
        }

        boolean hasMode(int k) {
            return k >= 0 && k < modesKnown && k < MOST_BLOCKS;
        }

        void addMode(int newMode) {
            if (modesKnown < MOST_BLOCKS) {
                modes[modesKnown] = newMode;
                modesKnown++;
            }
        }
    }

    /** Every read answers NO_BIT where it needs a bit behind the last one. */
    private static final class ByteRow {
        final int[] bytes = new int[MOST_BYTES];
        int length;
        int position;

        boolean has(int k) {
            return k >= 0 && k < length && k < MOST_BYTES;
        }

        boolean hasGoodHead() {
            return length >= HEAD_BYTES && isSide(bytes[0] * BLOCK_SIDE) && isSide(bytes[1] * BLOCK_SIDE)
                    && isCoarseness(bytes[2]);
        }

        void become(BitWriter writer) {
            System.arraycopy(writer.bytes, 0, bytes, 0, MOST_BYTES);
            length = Math.min(writer.bytesNeeded(), MOST_BYTES);
        }

        void beginBehindHead() {
            position = HEAD_BYTES * BYTE_BITS;
        }

        int readBit() {
            int k = position / BYTE_BITS;
            if (k < 0 || k >= length || k >= MOST_BYTES) {
                return NO_BIT;
            }
            int bit = (bytes[k] >> (BYTE_BITS - 1 - position % BYTE_BITS)) & 1;
            position++;
            return bit;
        }

        int readBits(int howMany) {
            int value = 0;
            for (int i = 0; i < howMany; i++) {
                int bit = readBit();
                if (bit == NO_BIT) {
                    return NO_BIT;
                }
                value = value * 2 + bit;
            }
            return value;
        }

        int readOnes() {
            for (int ones = 0; ones < MOST_ONES; ones++) {
                int bit = readBit();
                if (bit == NO_BIT) {
                    return NO_BIT;
                }
                if (bit == 0) {
                    return ones;
                }
            }
            return MOST_ONES;
        }
    }

    private static final class BitWriter {
        final int[] bytes = new int[MOST_BYTES];
        int bits;

        void begin() {
            bits = 0;
            for (int i = 0; i < MOST_BYTES; i++) {
                bytes[i] = 0;
            }
        }

        /** Bits behind the last byte are counted all the same: the count tells that the row would be too long. */
        void write(int value, int howMany) {
            for (int i = howMany - 1; i >= 0; i--) {
                int k = bits / BYTE_BITS;
                if (k < MOST_BYTES) {
                    bytes[k] |= ((value >> i) & 1) << (BYTE_BITS - 1 - bits % BYTE_BITS);
                }
                bits++;
            }
        }

        void writeOnesAndZero(int ones) {
            write((2 << ones) - 2, ones + 1);
        }

        int bytesNeeded() {
            return (bits + BYTE_BITS - 1) / BYTE_BITS;
        }
    }

    private static final class Tally {
        int sum;
        int n;

        void begin() {
            sum = FIRST_SUM;
            n = FIRST_N;
        }

        int lowBits() {
            int k = 0;
            while (k < MOST_K && (n << k) < sum) {
                k++;
            }
            return k;
        }

        void learn(int u) {
            sum += u;
            n++;
            if (n == HALVED_AT_N) {
                sum /= 2;
                n /= 2;
            }
        }
    }

    /** Writing and reading stand side by side because both must adapt in the same way. */
    private static final class LevelCode {
        final Tally first = new Tally();
        final Tally others = new Tally();

        void begin() {
            first.begin();
            others.begin();
        }

        void writeLevel(BitWriter out, int index, int level) {
            Tally tally = index == 0 ? first : others;
            int u = level > 0 ? 2 * level - 1 : -2 * level;
            int k = tally.lowBits();
            if (u >> k >= MOST_ONES) {
                out.write((1 << MOST_ONES) - 1, MOST_ONES);
                out.write(u, PLAIN_BITS);
            } else {
                out.writeOnesAndZero(u >> k);
                out.write(u, k);
            }
            tally.learn(u);
        }

        int readU(ByteRow in, int index) {
            Tally tally = index == 0 ? first : others;
            int k = tally.lowBits();
            int ones = in.readOnes();
            if (ones == NO_BIT) {
                return NO_BIT;
            }
            boolean plain = ones == MOST_ONES;
            int low = in.readBits(plain ? PLAIN_BITS : k);
            if (low == NO_BIT) {
                return NO_BIT;
            }
            int u = plain ? low : (ones << k) + low;
            tally.learn(u);
            return u;
        }

        static int levelOf(int u) {
            return u % 2 == 1 ? (u + 1) / 2 : -(u / 2);
        }
    }

    private static final class Block {
        final int[] above = new int[BLOCK_SIDE];
        final int[] left = new int[BLOCK_SIDE];
        final int[] foretold = new int[BLOCK_PIXELS];
        final int[] levels = new int[BLOCK_PIXELS];
        final int[] work = new int[BLOCK_PIXELS];
        boolean rowAbove;
        boolean columnBefore;
        int corner;

        void lookAround(Picture soFar, int x, int y) {
            rowAbove = y > 0;
            columnBefore = x > 0;
            for (int i = 0; i < BLOCK_SIDE; i++) {
                above[i] = rowAbove ? soFar.look(x + i, y - 1) : NO_ROW;
                left[i] = columnBefore ? soFar.look(x - 1, y + i) : NO_COLUMN;
            }
            corner = NO_ROW;
            if (rowAbove) {
                corner = columnBefore ? soFar.look(x - 1, y - 1) : NO_COLUMN;
            }
        }

        int meanAround() {
            int sumAbove = above[0] + above[1] + above[2] + above[3];
            int sumLeft = left[0] + left[1] + left[2] + left[3];
            if (rowAbove && columnBefore) {
                return (sumAbove + sumLeft + 4) / 8;
            }
            if (rowAbove) {
                return (sumAbove + 2) / 4;
            }
            return columnBefore ? (sumLeft + 2) / 4 : GREY;
        }

        void foretell(int way) {
            int mean = meanAround();
            for (int i = 0; i < BLOCK_PIXELS; i++) {
                int over = above[i % BLOCK_SIDE];
                int before = left[i / BLOCK_SIDE];
                switch (way) {
                    case 0:
                        foretold[i] = mean;
                        break;
                    case 1:
                        foretold[i] = over;
                        break;
                    case 2:
                        foretold[i] = before;
                        break;
                    default:
                        foretold[i] = clipped(before + over - corner);
                        break;
                }
            }
        }

        int bestMode(Picture of, int x, int y) {
            int best = 0;
            int least = BLOCK_PIXELS * MOST_PIXEL + 1;
            for (int way = 0; way < MODES; way++) {
                foretell(way);
                int misses = sumOfMisses(of, x, y);
                if (misses < least) {
                    least = misses;
                    best = way;
                }
            }
            return best;
        }

        int sumOfMisses(Picture of, int x, int y) {
            int sum = 0;
            for (int i = 0; i < BLOCK_PIXELS; i++) {
                sum += Math.abs(of.look(x + i % BLOCK_SIDE, y + i / BLOCK_SIDE) - foretold[i]);
            }
            return sum;
        }

        void makeLevels(Picture of, int x, int y, int q) {
            for (int i = 0; i < BLOCK_PIXELS; i++) {
                work[i] = of.look(x + i % BLOCK_SIDE, y + i / BLOCK_SIDE) - foretold[i];
            }
            transform();
            int half = (1 << q) / 2;
            for (int i = 0; i < BLOCK_PIXELS; i++) {
                int level = (Math.abs(work[i]) + half) >> q;
                levels[i] = work[i] < 0 ? -level : level;
            }
        }

        void rebuild(Picture into, int x, int y, int q) {
            for (int i = 0; i < BLOCK_PIXELS; i++) {
                work[i] = levels[i] * (1 << q);
            }
            transform();
            for (int i = 0; i < BLOCK_PIXELS; i++) {
                int v = clipped(foretold[i] + ((work[i] + 8) >> 4));
                into.put(x + i % BLOCK_SIDE, y + i / BLOCK_SIDE, v);
            }
        }

        int levelsUpToLast() {
            int length = 0;
            for (int i = 0; i < BLOCK_PIXELS; i++) {
                if (levels[i] != 0) {
                    length = i + 1;
                }
            }
            return length;
        }

        void transform() {
            for (int i = 0; i < BLOCK_SIDE; i++) {
                int start = i * BLOCK_SIDE;
                transformLine(start, start + 1, start + 2, start + 3);
            }
            for (int i = 0; i < BLOCK_SIDE; i++) {
                transformLine(i, i + BLOCK_SIDE, i + 2 * BLOCK_SIDE, i + 3 * BLOCK_SIDE);
            }
        }

        void transformLine(int a, int b, int c, int d) {
            int x0 = work[a];
            int x1 = work[b];
            int x2 = work[c];
            int x3 = work[d];
            work[a] = x0 + x1 + x2 + x3;
            work[b] = x0 + x1 - x2 - x3;
            work[c] = x0 - x1 - x2 + x3;
            work[d] = x0 - x1 + x2 - x3;
        }
    }

    /** An encode that is refused must change nothing, so all that is made here is a draft until it is taken. */
    private static final class Coder {
        final Picture draft = new Picture();
        final BitWriter out = new BitWriter();
        final Block block = new Block();
        final LevelCode levelCode = new LevelCode();
        int levelsNotZero;
        int greatest;

        void makeDraft(Picture of, int q) {
            levelsNotZero = 0;
            greatest = 0;
            levelCode.begin();
            draft.begin(of.width, of.height);
            out.begin();
            out.write(of.width / BLOCK_SIDE, BYTE_BITS);
            out.write(of.height / BLOCK_SIDE, BYTE_BITS);
            out.write(q, BYTE_BITS);
            for (int y = 0; y < of.height; y += BLOCK_SIDE) {
                for (int x = 0; x < of.width; x += BLOCK_SIDE) {
                    codeBlock(of, x, y, q);
                }
            }
        }

        void codeBlock(Picture of, int x, int y, int q) {
            block.lookAround(draft, x, y);
            int best = block.bestMode(of, x, y);
            block.foretell(best);
            block.makeLevels(of, x, y, q);
            out.write(best, MODE_BITS);
            writeLevels();
            block.rebuild(draft, x, y, q);
            draft.addMode(best);
        }

        void writeLevels() {
            int length = block.levelsUpToLast();
            out.write(length, LENGTH_BITS);
            for (int i = 0; i < BLOCK_PIXELS && i < length; i++) {
                int level = block.levels[i];
                levelCode.writeLevel(out, i, level);
                levelsNotZero += level == 0 ? 0 : 1;
                greatest = Math.max(greatest, Math.abs(level));
            }
        }
    }

    private static final class RowReader {
        final Block block = new Block();
        final LevelCode levelCode = new LevelCode();
        int bitsOfBlocks;

        /** Only for a row with a good head. */
        int readInto(Picture into, ByteRow in) {
            int ending = WHOLE;
            levelCode.begin();
            in.beginBehindHead();
            bitsOfBlocks = in.position;
            into.begin(in.bytes[0] * BLOCK_SIDE, in.bytes[1] * BLOCK_SIDE);
            for (int y = 0; y < into.height; y += BLOCK_SIDE) {
                for (int x = 0; x < into.width; x += BLOCK_SIDE) {
                    if (ending == WHOLE) {
                        ending = readBlock(into, in, x, y);
                    }
                    if (ending != WHOLE) {
                        makeGrey(into, x, y);
                    }
                }
            }
            return ending;
        }

        int readBlock(Picture into, ByteRow in, int x, int y) {
            int way = in.readBits(MODE_BITS);
            if (way == NO_BIT) {
                return ENDED;
            }
            int ending = readLevels(in);
            if (ending == WHOLE) {
                block.lookAround(into, x, y);
                block.foretell(way);
                block.rebuild(into, x, y, in.bytes[2]);
                into.addMode(way);
                bitsOfBlocks = in.position;
            }
            return ending;
        }

        int readLevels(ByteRow in) {
            int length = in.readBits(LENGTH_BITS);
            if (length == NO_BIT) {
                return ENDED;
            }
            if (length > BLOCK_PIXELS) {
                return WRONG;
            }
            for (int i = 0; i < BLOCK_PIXELS; i++) {
                int u = i < length ? levelCode.readU(in, i) : 0;
                if (u == NO_BIT) {
                    return ENDED;
                }
                if (u > MOST_U) {
                    return WRONG;
                }
                block.levels[i] = LevelCode.levelOf(u);
            }
            return WHOLE;
        }

        void makeGrey(Picture into, int x, int y) {
            for (int i = 0; i < BLOCK_PIXELS; i++) {
                into.put(x + i % BLOCK_SIDE, y + i / BLOCK_SIDE, GREY);
            }
        }
    }
}
