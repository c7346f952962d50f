import java.util.Arrays;

/** Paths of lines made into covered points on planes of bytes; the promises stand in shared/DOC.md. */
public final class RasterCover {
    private static final int MAX_SIDE = 48;
    private static final int MAX_PLANES = 4;
    private static final int FULL = 255;
    private static final int LOW_BYTE = 0xff;
    private static final int RULE_TURNS = 0;
    private static final int RULE_ODD = 1;
    private static final long MAX_PLACE = 1048576L;
    private static final int HALF_POINT = 128;
    private static final int HAIR_POINTS = 4;

    private final int width;
    private final int height;
    private final int planes;
    private final int[] bytes;
    private final int[] clips;
    private final boolean[] overs;
    private final Path path;
    private final RowCover rowCover;
    private final PackedRow packedRow;
    private int bandFrom;
    private int bandTo;
    private int fills;

    public RasterCover(int width, int height, int planes) {
        this.width = cut(width, MAX_SIDE);
        this.height = cut(height, MAX_SIDE);
        this.planes = cut(planes, MAX_PLANES);
        this.bytes = new int[this.planes * this.height * this.width];
        this.clips = new int[this.height * this.width];
        this.overs = new boolean[this.planes];
        this.path = new Path();
        this.rowCover = new RowCover(this.width);
        this.packedRow = new PackedRow(this.width);
        this.bandFrom = 0;
        this.bandTo = this.height;
        this.fills = 0;
        Arrays.fill(this.clips, FULL);
    }

    public int move(long x, long y) throws UnsupportedOperationException {
        needRoom(1);
        path.begin(cutPlace(x), cutPlace(y));
        return path.count;
    }

    public int line(long x, long y) throws IllegalStateException, UnsupportedOperationException {
        if (path.count == 0) {
            throw new IllegalStateException("no point to draw a line from");
        }
        needRoom(1);
        path.join(cutPlace(x), cutPlace(y));
        return path.count;
    }

    public int hair(long x, long y, long u, long v) throws UnsupportedOperationException {
        needRoom(HAIR_POINTS);
        addHair(cutPlace(x), cutPlace(y), cutPlace(u), cutPlace(v));
        return path.count;
    }

    public int fill(int rule, int plane, int v) throws IllegalArgumentException, ArrayIndexOutOfBoundsException {
        needRule(rule);
        needPlane(plane);
        int painted = 0;
        for (int y = bandFrom; y < bandTo; y++) {
            rowCover.measure(path, y, rule);
            painted += paintRow(y, plane, v & LOW_BYTE);
        }
        path.clear();
        fills++;
        return painted;
    }

    public int clip(int rule) throws IllegalArgumentException {
        needRule(rule);
        int open = 0;
        for (int y = 0; y < height; y++) {
            rowCover.measure(path, y, rule);
            open += clipRow(y);
        }
        path.clear();
        return open;
    }

    public int end() {
        int ended = fills;
        fills = 0;
        path.clear();
        Arrays.fill(clips, FULL);
        return ended;
    }

    public int point(int x, int y, int plane) throws ArrayIndexOutOfBoundsException {
        needPoint(x, y);
        needPlane(plane);
        return bytes[(plane * height + y) * width + x];
    }

    public int cover(int x, int y) throws ArrayIndexOutOfBoundsException {
        needPoint(x, y);
        rowCover.measure(path, y, RULE_TURNS);
        return rowCover.at(x);
    }

    public int band(int from, int to) {
        bandFrom = cut(from, height);
        bandTo = Math.max(bandFrom, cut(to, height));
        return bandTo - bandFrom;
    }

    /** A row's covers come from its own sub-rows alone, so no parting into bands can change them. */
    public boolean same(int bands) {
        return bands >= 1 && bands <= height;
    }

    public byte packed(int i) throws ArrayIndexOutOfBoundsException {
        int left = i;
        for (int row = 0; row < planes * height && left >= 0; row++) {
            packedRow.pack(bytes, row * width, (row + 1) * width);
            if (left < packedRow.size) {
                return packedRow.signs[left];
            }
            left -= packedRow.size;
        }
        throw new ArrayIndexOutOfBoundsException("no such byte");
    }

    public int over(int plane, boolean on) throws ArrayIndexOutOfBoundsException {
        needPlane(plane);
        int before = overs[plane] ? 1 : 0;
        overs[plane] = on;
        return before;
    }

    private void needRoom(int points) {
        if (path.count + points > Path.MAX_POINTS) {
            throw new UnsupportedOperationException("the path is full");
        }
    }

    private static void needRule(int rule) {
        if (rule != RULE_TURNS && rule != RULE_ODD) {
            throw new IllegalArgumentException("no such rule");
        }
    }

    private void needPlane(int plane) {
        if (plane < 0 || plane >= planes) {
            throw new ArrayIndexOutOfBoundsException("no such plane");
        }
    }

    private void needPoint(int x, int y) {
        if (x < 0 || x >= width || y < 0 || y >= height) {
            throw new ArrayIndexOutOfBoundsException("no such point");
        }
    }

    private static int cut(int value, int most) {
        return Math.max(0, Math.min(most, value));
    }

    private static int cutPlace(long place) {
        return (int) Math.max(-MAX_PLACE, Math.min(MAX_PLACE, place));
    }

    private static int mul(int a, int b) {
        return (a * b + 127) / 255;
    }

    private static int blend(int old, int v, int c) {
        return (old * (FULL - c) + v * c + 127) / 255;
    }

    private void addHair(int x, int y, int u, int v) {
        if (x == u && y == v) {
            path.begin(x - HALF_POINT, y - HALF_POINT);
            path.join(x + HALF_POINT, y - HALF_POINT);
            path.join(x + HALF_POINT, y + HALF_POINT);
            path.join(x - HALF_POINT, y + HALF_POINT);
            return;
        }
        boolean across = Math.abs(u - x) >= Math.abs(v - y);
        int sideX = across ? 0 : HALF_POINT;
        int sideY = across ? HALF_POINT : 0;
        path.begin(x - sideX, y - sideY);
        path.join(u - sideX, v - sideY);
        path.join(u + sideX, v + sideY);
        path.join(x + sideX, y + sideY);
    }

    private int paintRow(int y, int plane, int v) {
        int painted = 0;
        for (int x = 0; x < width; x++) {
            int at = y * width + x;
            int c = mul(rowCover.at(x), clips[at]);
            if (c > 0) {
                paintPoint(at, plane, v, c);
                painted++;
            }
        }
        return painted;
    }

    private void paintPoint(int point, int plane, int v, int c) {
        for (int p = 0; p < planes; p++) {
            int at = p * height * width + point;
            if (p == plane) {
                bytes[at] = blend(bytes[at], v, c);
            } else if (!overs[p]) {
                bytes[at] = blend(bytes[at], 0, c);
            }
        }
    }

    private int clipRow(int y) {
        int open = 0;
        for (int x = 0; x < width; x++) {
            int at = y * width + x;
            clips[at] = mul(clips[at], rowCover.at(x));
            if (clips[at] > 0) {
                open++;
            }
        }
        return open;
    }

    /** Points in the order in which they came; each subpath reaches to the next point that begins one. */
    private static final class Path {
        private static final int MAX_POINTS = 100;

        private final int[] xs = new int[MAX_POINTS];
        private final int[] ys = new int[MAX_POINTS];
        private final boolean[] begins = new boolean[MAX_POINTS];
        private int count = 0;

        private void begin(int x, int y) {
            add(x, y, true);
        }

        private void join(int x, int y) {
            add(x, y, false);
        }

        private void add(int x, int y, boolean begin) {
            if (count < MAX_POINTS) {
                xs[count] = x;
                ys[count] = y;
                begins[count] = begin;
                count++;
            }
        }

        private void clear() {
            count = 0;
        }
    }

    /** The crossings of a path with one sub-row's line, from the left. */
    private static final class Crossings {
        private final int[] xs = new int[Path.MAX_POINTS];
        private final int[] turns = new int[Path.MAX_POINTS];
        private int count = 0;

        private void collect(Path path, int line) {
            count = 0;
            int first = 0;
            for (int i = 0; i < path.count; i++) {
                if (path.begins[i]) {
                    first = i;
                }
                boolean last = i + 1 == path.count || path.begins[i + 1];
                int next = last ? first : i + 1;
                if (path.ys[i] <= path.ys[next]) {
                    cross(path, i, next, line, 1);
                } else {
                    cross(path, next, i, line, -1);
                }
            }
        }

        private void cross(Path path, int upper, int lower, int line, int turn) {
            int top = path.ys[upper];
            int bottom = path.ys[lower];
            if (top <= line && line < bottom) {
                // Both factors may reach 2097408, so their product needs a long.
                long across = (long) (line - top) * (path.xs[lower] - path.xs[upper]);
                insert(path.xs[upper] + (int) Math.floorDiv(across, (long) (bottom - top)), turn);
            }
        }

        private void insert(int x, int turn) {
            if (count >= Path.MAX_POINTS) {
                return;
            }
            int at = count;
            while (at > 0 && xs[at - 1] > x) {
                xs[at] = xs[at - 1];
                turns[at] = turns[at - 1];
                at--;
            }
            xs[at] = x;
            turns[at] = turn;
            count++;
        }
    }

    /** How much of each point of one row a path covers. */
    private static final class RowCover {
        private static final int SUB_ROWS = 16;
        private static final int POINT_UNITS = 256;
        private static final int SUB_ROW_UNITS = 16;

        private final int[] units;
        private final Crossings crossings = new Crossings();

        private RowCover(int width) {
            units = new int[width];
        }

        private int at(int x) {
            return (units[x] * FULL + 2048) / 4096;
        }

        private void measure(Path path, int row, int rule) {
            Arrays.fill(units, 0);
            for (int sub = 0; sub < SUB_ROWS; sub++) {
                crossings.collect(path, (row * SUB_ROWS + sub) * SUB_ROW_UNITS + SUB_ROW_UNITS / 2);
                addSubRow(rule);
            }
        }

        private void addSubRow(int rule) {
            int turns = 0;
            for (int i = 0; i + 1 < crossings.count; i++) {
                turns += crossings.turns[i];
                boolean oddPassed = i % 2 == 0;
                if (rule == RULE_TURNS ? turns != 0 : oddPassed) {
                    addSpan(crossings.xs[i], crossings.xs[i + 1]);
                }
            }
        }

        private void addSpan(int from, int to) {
            int left = Math.max(0, from);
            int right = Math.min(units.length * POINT_UNITS, to);
            for (int x = left / POINT_UNITS; x < units.length && x * POINT_UNITS < right; x++) {
                int begin = x * POINT_UNITS;
                units[x] += Math.min(right, begin + POINT_UNITS) - Math.max(left, begin);
            }
        }
    }

    /** One row of bytes as runs and single ones; it is shorter than 64, so none of them is too long to be told. */
    private static final class PackedRow {
        private static final int RUN_OF_ONE = 127;

        private final byte[] signs;
        private int size = 0;

        private PackedRow(int width) {
            // At worst each byte is a single one with a count of its own.
            signs = new byte[2 * width];
        }

        private void pack(int[] bytes, int start, int end) {
            size = 0;
            int head = 0;
            boolean afterSingle = false;
            for (int at = start; at < end; at++) {
                if (at > start && bytes[at] == bytes[at - 1]) {
                    signs[head]--;
                } else if (at + 1 < end && bytes[at] == bytes[at + 1]) {
                    head = size;
                    put(RUN_OF_ONE);
                    put(bytes[at]);
                    afterSingle = false;
                } else {
                    if (!afterSingle) {
                        head = size;
                        put(0);
                    }
                    signs[head]++;
                    put(bytes[at]);
                    afterSingle = true;
                }
            }
        }

        private void put(int sign) {
            if (size < signs.length) {
                signs[size] = (byte) sign;
                size++;
            }
        }
    }
}
