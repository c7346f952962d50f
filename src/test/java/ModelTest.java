import java.util.Random;

/** Runs of calls, made from fixed seeds, on the class and on the model: every answer and exception is the same. */
public final class ModelTest {
    private static final int RUNS = 600;
    private static final int CALLS = 512;
    private static final long[] ODD_PLACES = {
        Long.MIN_VALUE, Long.MAX_VALUE, -1048577L, -1048576L, 1048576L, 1048577L, -1L, 0L, 1L << 32, (1L << 32) + 300L,
    };
    private static final int[] ODD_NUMBERS = {Integer.MIN_VALUE, Integer.MAX_VALUE, -1, 0, 1, 48, 49, 255, 256};

    private interface Answer {
        long get();
    }

    private final Random random;
    private final RasterCover real;
    private final Model model;
    private final int style;

    private ModelTest(int seed) {
        random = new Random(seed);
        style = random.nextInt(4);
        int width = side();
        int height = side();
        int planes = random.nextInt(8) == 0 ? random.nextInt(9) - 2 : 1 + random.nextInt(4);
        real = new RasterCover(width, height, planes);
        model = new Model(width, height, planes);
    }

    public static void main(String[] args) {
        for (int seed = 0; seed < RUNS; seed++) {
            ModelTest run = new ModelTest(seed);
            for (int call = 0; call < CALLS; call++) {
                run.step("seed " + seed + ", call " + call + ": ");
            }
        }
        Check.finish();
    }

    private int side() {
        int kind = random.nextInt(16);
        return kind == 0 ? ODD_NUMBERS[random.nextInt(ODD_NUMBERS.length)] : kind < 3 ? random.nextInt(49) : 1 + random.nextInt(9);
    }

    private long place(int points) {
        switch (random.nextInt(style == 3 ? 4 : 12)) {
            case 0:
                return ODD_PLACES[random.nextInt(ODD_PLACES.length)];
            case 1:
                return 8L * (random.nextInt(32 * points + 64) - 32);
            case 2:
                return 128L * (random.nextInt(2 * points + 6) - 3);
            case 3:
                return random.nextInt(2000000) - 1000000;
            default:
                return random.nextInt(256 * points + 512) - 256;
        }
    }

    private long placeX() {
        return place(model.width);
    }

    private long placeY() {
        return place(model.height);
    }

    private int index(int count) {
        return random.nextInt(20) == 0 ? ODD_NUMBERS[random.nextInt(ODD_NUMBERS.length)] : random.nextInt(count + 1);
    }

    private int rule() {
        return random.nextInt(12) == 0 ? index(3) - 1 : random.nextInt(2);
    }

    private void step(String where) {
        int kind = random.nextInt(100);
        int build = style == 0 ? 20 : 45;
        if (kind < build) {
            stepPath(where, kind);
        } else if (kind < build + 12) {
            stepState(where, kind - build);
        } else {
            stepQuery(where);
        }
    }

    private void stepPath(String where, int kind) {
        long x = placeX();
        long y = placeY();
        if (kind % 8 == 0) {
            same(where + "move(" + x + ", " + y + ")", () -> real.move(x, y), () -> model.move(x, y));
        } else if (kind % 8 == 1) {
            boolean dot = random.nextInt(8) == 0;
            long u = dot ? x : placeX();
            long v = dot ? y : placeY();
            same(where + "hair(" + x + ", " + y + ", " + u + ", " + v + ")",
                    () -> real.hair(x, y, u, v), () -> model.hair(x, y, u, v));
        } else {
            same(where + "line(" + x + ", " + y + ")", () -> real.line(x, y), () -> model.line(x, y));
        }
    }

    private void stepState(String where, int kind) {
        if (style == 2 && random.nextInt(4) != 0) {
            return;
        }
        int rule = rule();
        int plane = index(model.planes);
        if (kind < 6) {
            int v = random.nextInt(4) == 0 ? random.nextInt() : random.nextInt(256);
            same(where + "fill(" + rule + ", " + plane + ", " + v + ")",
                    () -> real.fill(rule, plane, v), () -> model.fill(rule, plane, v));
        } else if (kind == 6) {
            same(where + "clip(" + rule + ")", () -> real.clip(rule), () -> model.clip(rule));
        } else if (kind == 7) {
            same(where + "end()", () -> real.end(), () -> model.end());
        } else if (kind == 8) {
            int from = index(model.height) - random.nextInt(3);
            int to = index(model.height) + random.nextInt(3);
            same(where + "band(" + from + ", " + to + ")", () -> real.band(from, to), () -> model.band(from, to));
        } else if (kind < 11) {
            boolean on = random.nextBoolean();
            same(where + "over(" + plane + ", " + on + ")", () -> real.over(plane, on), () -> model.over(plane, on));
        } else {
            int bands = index(model.height + 1);
            same(where + "same(" + bands + ")", () -> real.same(bands) ? 1 : 0, () -> model.same(bands) ? 1 : 0);
        }
    }

    private void stepQuery(String where) {
        int x = index(model.width);
        int y = index(model.height);
        int plane = index(model.planes);
        int kind = random.nextInt(3);
        if (kind == 0) {
            same(where + "point(" + x + ", " + y + ", " + plane + ")",
                    () -> real.point(x, y, plane), () -> model.point(x, y, plane));
        } else if (kind == 1) {
            same(where + "cover(" + x + ", " + y + ")", () -> real.cover(x, y), () -> model.cover(x, y));
        } else {
            int length = model.pack().length;
            int i = random.nextInt(12) == 0 ? length - random.nextInt(2) : index(length);
            same(where + "packed(" + i + ")", () -> real.packed(i), () -> model.packed(i));
        }
    }

    private static void same(String what, Answer got, Answer want) {
        long due = 0;
        Class<? extends RuntimeException> thrown = null;
        try {
            due = want.get();
        } catch (RuntimeException e) {
            thrown = e.getClass();
        }
        if (thrown == null) {
            Check.due(what, got.get(), due);
        } else {
            Check.throwing(what, thrown, () -> got.get());
        }
    }
}
