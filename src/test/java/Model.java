import java.util.ArrayList;
import java.util.List;

/**
 * The document once more, in the most literal way: pictures as rows of rows, the stream as a list, its bits as a text.
 * The tests compare the class with it over long runs of calls. Answers are texts; a refusal is the exception's name.
 */
final class Model {
    private static final String ARGUMENT = "IllegalArgumentException";
    private static final String STATE = "IllegalStateException";
    private static final String INDEX = "IndexOutOfBoundsException";
    private static final String UNSUPPORTED = "UnsupportedOperationException";
    private static final int[][] MATRIX = {{1, 1, 1, 1}, {1, 1, -1, -1}, {1, -1, -1, 1}, {1, -1, 1, -1}};

    private int[][][] pictures = {new int[4][4], null, null};
    private List<Integer> bytes = new ArrayList<>();
    private List<Integer> copyModes = new ArrayList<>();
    private List<Integer> resultModes = new ArrayList<>();
    private int[] counts = new int[8];
    private int[][] tallies;

    String size(int width, int height) {
        if (width % 4 != 0 || height % 4 != 0 || width < 4 || width > 12 || height < 4 || height > 12) {
            return ARGUMENT;
        }
        pictures[0] = new int[height][width];
        return "" + width / 4 * (height / 4);
    }

    String pixel(int x, int y, int v) {
        if (v < 0 || v > 255) {
            return ARGUMENT;
        }
        if (outside(pictures[0], x, y)) {
            return INDEX;
        }
        int was = pictures[0][y][x];
        pictures[0][y][x] = v;
        return "" + was;
    }

    String fill(int x, int y, int v, int g, int h) {
        if (v < 0 || v > 255 || g < -255 || g > 255 || h < -255 || h > 255) {
            return ARGUMENT;
        }
        if (outside(pictures[0], x, y)) {
            return INDEX;
        }
        int[][] p = pictures[0];
        for (int j = y; j < p.length; j++) {
            for (int i = x; i < p[0].length; i++) {
                p[j][i] = clip(v + (i - x) * g + (j - y) * h);
            }
        }
        return "" + (p.length - y) * (p[0].length - x);
    }

    String encode(int q) {
        if (q < 0 || q > 5) {
            return ARGUMENT;
        }
        int[][] p = pictures[0];
        int[][] c = new int[p.length][p[0].length];
        List<Integer> modes = new ArrayList<>();
        StringBuilder bits = new StringBuilder(bin(p[0].length / 4, 8) + bin(p.length / 4, 8) + bin(q, 8));
        tallies = new int[][] {{8, 1}, {8, 1}};
        int notZero = 0;
        int greatest = 0;
        for (int block = 0; block < p.length * p[0].length / 16; block++) {
            int x = block % (p[0].length / 4) * 4;
            int y = block / (p[0].length / 4) * 4;
            int mode = bestMode(p, c, x, y);
            int[][] guess = foretell(c, x, y, mode);
            int[][] left = new int[4][4];
            for (int i = 0; i < 16; i++) {
                left[i / 4][i % 4] = p[y + i / 4][x + i % 4] - guess[i / 4][i % 4];
            }
            int[] levels = coarser(transform(left), q);
            int length = 16;
            while (length > 0 && levels[length - 1] == 0) {
                length--;
            }
            bits.append(bin(mode, 2)).append(bin(length, 5));
            for (int i = 0; i < length; i++) {
                bits.append(levelBits(levels[i], i));
                notZero += levels[i] != 0 ? 1 : 0;
                greatest = Math.max(greatest, Math.abs(levels[i]));
            }
            back(c, x, y, guess, levels, q);
            modes.add(mode);
        }
        int total = bits.length();
        while (bits.length() % 8 != 0) {
            bits.append('0');
        }
        if (bits.length() / 8 > 400) {
            return STATE;
        }
        bytes = new ArrayList<>();
        for (int i = 0; i < bits.length(); i += 8) {
            bytes.add(Integer.parseInt(bits.substring(i, i + 8), 2));
        }
        pictures[1] = c;
        copyModes = modes;
        counts[2] = total;
        counts[3] = notZero;
        counts[4] = greatest;
        return "" + bytes.size();
    }

    String decode() {
        if (bytes.size() < 3 || bytes.get(0) < 1 || bytes.get(0) > 3 || bytes.get(1) < 1 || bytes.get(1) > 3
                || bytes.get(2) > 5) {
            return UNSUPPORTED;
        }
        StringBuilder bits = new StringBuilder();
        for (int b : bytes) {
            bits.append(bin(b, 8));
        }
        int across = bytes.get(0);
        int[][] r = new int[bytes.get(1) * 4][across * 4];
        for (int[] line : r) {
            java.util.Arrays.fill(line, 128);
        }
        List<Integer> modes = new ArrayList<>();
        tallies = new int[][] {{8, 1}, {8, 1}};
        int[] at = {24};
        int fate = 0;
        int whole = 24;
        for (int block = 0; block < across * bytes.get(1) && fate == 0; block++) {
            int x = block % across * 4;
            int y = block / across * 4;
            int[] levels = new int[16];
            try {
                int mode = take(bits, at, 2);
                takeLevels(bits, at, levels);
                back(r, x, y, foretell(r, x, y, mode), levels, bytes.get(2));
                modes.add(mode);
                whole = at[0];
            } catch (StringIndexOutOfBoundsException e) {
                fate = 1;
            } catch (ArithmeticException e) {
                fate = 2;
            }
        }
        pictures[2] = r;
        resultModes = modes;
        counts[5] = modes.size();
        counts[6] = fate;
        counts[7] = whole;
        return "" + modes.size();
    }

    String stream(int k) {
        if (k == -1) {
            return "" + bytes.size();
        }
        return k < 0 || k >= bytes.size() ? INDEX : "" + bytes.get(k);
    }

    String damage(int k, int b) {
        if (b < 0 || b > 255) {
            return ARGUMENT;
        }
        if (k < 0 || k > bytes.size() || k == bytes.size() && k == 400) {
            return INDEX;
        }
        if (k == bytes.size()) {
            bytes.add(b);
            return "-1";
        }
        return "" + bytes.set(k, b);
    }

    String cut(int n) {
        if (n < 0 || n > bytes.size()) {
            return ARGUMENT;
        }
        int gone = bytes.size() - n;
        bytes = new ArrayList<>(bytes.subList(0, n));
        return "" + gone;
    }

    String get(int of, int x, int y) {
        if (of < 0 || of > 2) {
            return ARGUMENT;
        }
        if (pictures[of] == null) {
            return STATE;
        }
        return outside(pictures[of], x, y) ? INDEX : "" + pictures[of][y][x];
    }

    String apart(int a, int b) {
        if (a < 0 || a > 2 || b < 0 || b > 2) {
            return ARGUMENT;
        }
        int[][] one = pictures[a];
        int[][] other = pictures[b];
        if (one == null || other == null) {
            return STATE;
        }
        if (one.length != other.length || one[0].length != other[0].length) {
            return UNSUPPORTED;
        }
        double sum = 0;
        for (int y = 0; y < one.length; y++) {
            for (int x = 0; x < one[0].length; x++) {
                sum += (one[y][x] - other[y][x]) * (one[y][x] - other[y][x]);
            }
        }
        return "" + sum / (one.length * one[0].length);
    }

    String mode(boolean reader, int k) {
        List<Integer> modes = reader ? resultModes : copyModes;
        return k < 0 || k >= modes.size() ? INDEX : "" + modes.get(k);
    }

    String count(int what) {
        if (what < 0 || what > 7) {
            return ARGUMENT;
        }
        if (what == 0) {
            return "" + pictures[0][0].length;
        }
        return "" + (what == 1 ? pictures[0].length : counts[what]);
    }

    private static boolean outside(int[][] p, int x, int y) {
        return x < 0 || y < 0 || y >= p.length || x >= p[0].length;
    }

    private static int clip(int v) {
        return Math.max(0, Math.min(255, v));
    }

    private static String bin(int value, int howMany) {
        String all = String.format("%32s", Integer.toBinaryString(value)).replace(' ', '0');
        return all.substring(32 - howMany);
    }

    private static int bestMode(int[][] p, int[][] c, int x, int y) {
        int best = -1;
        int least = 0;
        for (int mode = 3; mode >= 0; mode--) {
            int[][] guess = foretell(c, x, y, mode);
            int sum = 0;
            for (int i = 0; i < 16; i++) {
                sum += Math.abs(p[y + i / 4][x + i % 4] - guess[i / 4][i % 4]);
            }
            if (best < 0 || sum <= least) {
                best = mode;
                least = sum;
            }
        }
        return best;
    }

    private static int[][] foretell(int[][] c, int x, int y, int mode) {
        int[][] guess = new int[4][4];
        int corner = y == 0 ? 127 : x == 0 ? 129 : c[y - 1][x - 1];
        int sum = 0;
        int there = 0;
        for (int i = 0; i < 4; i++) {
            if (y > 0) {
                sum += c[y - 1][x + i];
                there++;
            }
            if (x > 0) {
                sum += c[y + i][x - 1];
                there++;
            }
        }
        int mean = there == 0 ? 128 : (sum + there / 2) / there;
        for (int j = 0; j < 4; j++) {
            for (int i = 0; i < 4; i++) {
                int above = y == 0 ? 127 : c[y - 1][x + i];
                int left = x == 0 ? 129 : c[y + j][x - 1];
                int[] ways = {mean, above, left, clip(left + above - corner)};
                guess[j][i] = ways[mode];
            }
        }
        return guess;
    }

    /** Rows, then columns, are the matrix from both sides. */
    private static int[][] transform(int[][] in) {
        int[][] out = new int[4][4];
        for (int v = 0; v < 4; v++) {
            for (int u = 0; u < 4; u++) {
                for (int i = 0; i < 16; i++) {
                    out[v][u] += MATRIX[v][i / 4] * in[i / 4][i % 4] * MATRIX[u][i % 4];
                }
            }
        }
        return out;
    }

    private static int[] coarser(int[][] c, int q) {
        int step = (int) Math.pow(2, q);
        int[] levels = new int[16];
        for (int i = 0; i < 16; i++) {
            int value = c[i / 4][i % 4];
            levels[i] = (Math.abs(value) + step / 2) / step * Integer.signum(value);
        }
        return levels;
    }

    private static void back(int[][] c, int x, int y, int[][] guess, int[] levels, int q) {
        int[][] values = new int[4][4];
        for (int i = 0; i < 16; i++) {
            values[i / 4][i % 4] = levels[i] * (int) Math.pow(2, q);
        }
        int[][] left = transform(values);
        for (int i = 0; i < 16; i++) {
            c[y + i / 4][x + i % 4] = clip(guess[i / 4][i % 4] + Math.floorDiv(left[i / 4][i % 4] + 8, 16));
        }
    }

    private int k(int[] tally) {
        for (int k = 0; k < 10; k++) {
            if (tally[1] << k >= tally[0]) {
                return k;
            }
        }
        return 10;
    }

    private void learn(int[] tally, int u) {
        tally[0] += u;
        tally[1]++;
        if (tally[1] == 16) {
            tally[0] >>= 1;
            tally[1] >>= 1;
        }
    }

    private String levelBits(int level, int index) {
        int[] tally = tallies[Math.min(index, 1)];
        int u = level > 0 ? 2 * level - 1 : -2 * level;
        int k = k(tally);
        learn(tally, u);
        if (u >> k >= 12) {
            return "111111111111" + bin(u, 14);
        }
        return "1".repeat(u >> k) + "0" + bin(u, k);
    }

    /** A text that is too short answers ENDED by its own exception. */
    private static int take(StringBuilder bits, int[] at, int howMany) {
        String part = bits.substring(at[0], at[0] + howMany);
        at[0] += howMany;
        return part.isEmpty() ? 0 : Integer.parseInt(part, 2);
    }

    private void takeLevels(StringBuilder bits, int[] at, int[] levels) {
        int length = take(bits, at, 5);
        if (length > 16) {
            throw new ArithmeticException();
        }
        for (int i = 0; i < length; i++) {
            int[] tally = tallies[Math.min(i, 1)];
            int ones = 0;
            while (ones < 12 && take(bits, at, 1) == 1) {
                ones++;
            }
            int k = k(tally);
            int u = ones == 12 ? take(bits, at, 14) : (ones << k) | take(bits, at, k);
            if (u > 8190) {
                throw new ArithmeticException();
            }
            learn(tally, u);
            levels[i] = (u & 1) == 1 ? (u + 1) / 2 : -u / 2;
        }
    }
}
