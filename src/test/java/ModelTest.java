import java.util.Random;

/** Long runs of calls, the same on an object of the class and on the literal model, with answers that must agree. */
public final class ModelTest {
    private static final int RUNS = 3000;
    private static final int MOST_CALLS = 512;

    private final int seed;
    private final Random random;
    private final TileForge forge = new TileForge();
    private final Model model = new Model();
    private int calls = 0;

    private interface Call {
        Object run();
    }

    private ModelTest(int seed) {
        this.seed = seed;
        random = new Random(seed);
    }

    public static void main(String[] args) {
        for (int seed = 0; seed < RUNS; seed++) {
            ModelTest test = new ModelTest(seed);
            while (test.calls < MOST_CALLS) {
                test.scene();
            }
        }
        Due.end();
    }

    private void scene() {
        switch (random.nextInt(8)) {
            case 0:
                size(4 + 4 * random.nextInt(3), 4 + 4 * random.nextInt(3));
                break;
            case 1:
                fill(random.nextInt(8), random.nextInt(8), random.nextInt(256), slope(), slope());
                break;
            case 2:
                noise();
                break;
            case 3:
            case 4:
                code();
                break;
            case 5:
                spoil();
                break;
            case 6:
                freeStream();
                break;
            default:
                anything();
                break;
        }
    }

    private int slope() {
        return random.nextInt(3) == 0 ? random.nextInt(511) - 255 : random.nextInt(41) - 20;
    }

    private void noise() {
        int kind = random.nextInt(3);
        for (int i = random.nextInt(40); i > 0; i--) {
            int v = kind == 0 ? random.nextInt(256) : kind == 1 ? 255 * random.nextInt(2) : 120 + random.nextInt(16);
            pixel(random.nextInt(12), random.nextInt(12), v);
        }
    }

    private void code() {
        encode(random.nextInt(6));
        count(2);
        count(3);
        count(4);
        apart(0, 1);
        for (int i = 0; i < 5; i++) {
            stream(random.nextInt(200));
            mode(false, random.nextInt(9));
            get(1, random.nextInt(12), random.nextInt(12));
        }
        read();
        apart(1, 2);
    }

    private void read() {
        decode();
        count(5);
        count(6);
        count(7);
        for (int i = 0; i < 5; i++) {
            mode(true, random.nextInt(9));
            get(2, random.nextInt(12), random.nextInt(12));
        }
        apart(0, 2);
    }

    private void spoil() {
        int length = Integer.parseInt(model.stream(-1));
        if (random.nextInt(3) == 0) {
            cut(random.nextInt(length + 1));
        } else {
            damage(random.nextInt(length + 1), random.nextInt(256));
        }
        read();
    }

    private void freeStream() {
        cut(0);
        damage(0, 1 + random.nextInt(3));
        damage(1, 1 + random.nextInt(3));
        damage(2, random.nextInt(6));
        int kind = random.nextInt(3);
        for (int k = 3 + random.nextInt(60); k > 3; k--) {
            int b = random.nextInt(256);
            b = kind == 0 ? b : kind == 1 ? b & random.nextInt(256) : b | random.nextInt(256);
            damage(Integer.parseInt(model.stream(-1)), random.nextInt(4) == 0 ? 0 : b);
        }
        read();
    }

    private int any() {
        int[] edges = {-1, 0, 1, 2, 3, 4, 5, 6, 7, 8, 11, 12, 16, 127, 255, 256, -255, -256, 399, 400, 401,
            Integer.MIN_VALUE, Integer.MAX_VALUE};
        return edges[random.nextInt(edges.length)];
    }

    private void anything() {
        size(any(), any());
        pixel(any(), any(), any());
        fill(any(), any(), any(), any(), any());
        encode(any());
        stream(any());
        damage(any(), any());
        cut(any());
        get(any(), any(), any());
        apart(any(), any());
        mode(random.nextBoolean(), any());
        count(any());
        decode();
    }

    private void agree(String call, String want, Call run) {
        calls++;
        if (calls > MOST_CALLS) {
            return;
        }
        String got;
        try {
            got = String.valueOf(run.run());
        } catch (RuntimeException e) {
            got = e.getClass().getSimpleName();
        }
        if (!want.equals(got)) {
            call = "run " + seed + ", call " + calls + ": " + call;
        }
        Due.same(call, want, got);
    }

    private void size(int width, int height) {
        agree("size", model.size(width, height), () -> forge.size(width, height));
    }

    private void pixel(int x, int y, int v) {
        agree("pixel", model.pixel(x, y, v), () -> forge.pixel(x, y, v));
    }

    private void fill(int x, int y, int v, int g, int h) {
        agree("fill", model.fill(x, y, v, g, h), () -> forge.fill(x, y, v, g, h));
    }

    private void encode(int q) {
        agree("encode", model.encode(q), () -> forge.encode(q));
    }

    private void decode() {
        agree("decode", model.decode(), () -> forge.decode());
    }

    private void stream(int k) {
        agree("stream", model.stream(k), () -> forge.stream(k));
    }

    private void damage(int k, int b) {
        agree("damage", model.damage(k, b), () -> forge.damage(k, b));
    }

    private void cut(int n) {
        agree("cut", model.cut(n), () -> forge.cut(n));
    }

    private void get(int of, int x, int y) {
        agree("get", model.get(of, x, y), () -> forge.get(of, x, y));
    }

    private void apart(int a, int b) {
        agree("apart", model.apart(a, b), () -> forge.apart(a, b));
    }

    private void mode(boolean reader, int k) {
        agree("mode", model.mode(reader, k), () -> forge.mode(reader, k));
    }

    private void count(int what) {
        agree("count", model.count(what), () -> forge.count(what));
    }
}
