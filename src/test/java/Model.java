import java.io.ByteArrayOutputStream;
import java.util.ArrayList;
import java.util.Arrays;
import java.util.List;

/**
 * The document read a second time, with other means than the class: units are told inside by running sums over
 * a whole sub-row, not by sorted crossings, and planes are packed as a whole.
 */
final class Model {
    private static final int CUT = 1 << 20;

    final int width;
    final int height;
    final int planes;
    private final int[][] bytes;
    private final int[] clip;
    private final boolean[] over;
    private List<List<long[]>> path = new ArrayList<>();
    private int from = 0;
    private int to;
    private int fills = 0;

    Model(int width, int height, int planes) {
        this.width = width < 0 ? 0 : width > 48 ? 48 : width;
        this.height = height < 0 ? 0 : height > 48 ? 48 : height;
        this.planes = planes < 0 ? 0 : planes > 4 ? 4 : planes;
        bytes = new int[this.planes][this.width * this.height];
        clip = new int[this.width * this.height];
        Arrays.fill(clip, 255);
        over = new boolean[this.planes];
        to = this.height;
    }

    private static long place(long p) {
        return p < -CUT ? -CUT : p > CUT ? CUT : p;
    }

    private int points() {
        int sum = 0;
        for (List<long[]> subpath : path) {
            sum += subpath.size();
        }
        return sum;
    }

    private void room(int more) {
        if (points() + more > 100) {
            throw new UnsupportedOperationException("no such room");
        }
    }

    private int add(boolean begins, long x, long y) {
        if (begins) {
            path.add(new ArrayList<>());
        }
        path.get(path.size() - 1).add(new long[] {x, y});
        return points();
    }

    int move(long x, long y) {
        room(1);
        return add(true, place(x), place(y));
    }

    int line(long x, long y) {
        if (path.isEmpty()) {
            throw new IllegalStateException("no such point");
        }
        room(1);
        return add(false, place(x), place(y));
    }

    int hair(long ax, long ay, long bx, long by) {
        room(4);
        long x = place(ax);
        long y = place(ay);
        long u = place(bx);
        long v = place(by);
        long[][] four;
        if (x == u && y == v) {
            four = new long[][] {{x - 128, y - 128}, {x + 128, y - 128}, {x + 128, y + 128}, {x - 128, y + 128}};
        } else if (Math.abs(x - u) < Math.abs(y - v)) {
            four = new long[][] {{x - 128, y}, {u - 128, v}, {u + 128, v}, {x + 128, y}};
        } else {
            four = new long[][] {{x, y - 128}, {u, v - 128}, {u, v + 128}, {x, y + 128}};
        }
        for (int i = 0; i < 4; i++) {
            add(i == 0, four[i][0], four[i][1]);
        }
        return points();
    }

    /** Units covered of each point of a row, in its sixteen sub-rows together. */
    private int[] units(int row, int rule) {
        int[] sums = new int[width];
        int end = width * 256;
        for (int j = 16 * row; j < 16 * row + 16; j++) {
            int[] turns = new int[end + 1];
            int[] passed = new int[end + 1];
            for (List<long[]> subpath : path) {
                for (int i = 0; i < subpath.size(); i++) {
                    long[] a = subpath.get(i);
                    long[] b = subpath.get(i + 1 < subpath.size() ? i + 1 : 0);
                    mark(a, b, 16L * j + 8, turns, passed);
                }
            }
            int sum = 0;
            int count = 0;
            for (int unit = 0; unit < end; unit++) {
                sum += turns[unit];
                count += passed[unit];
                if (rule == 0 ? sum != 0 : count % 2 != 0) {
                    sums[unit / 256]++;
                }
            }
        }
        return sums;
    }

    private static void mark(long[] a, long[] b, long line, int[] turns, int[] passed) {
        if ((a[1] <= line) == (b[1] <= line)) {
            return;
        }
        boolean down = a[1] < b[1];
        long[] upper = down ? a : b;
        long[] lower = down ? b : a;
        long over = (line - upper[1]) * (lower[0] - upper[0]);
        long by = lower[1] - upper[1];
        long quotient = over / by;
        if (quotient * by > over) {
            quotient--;
        }
        int at = (int) Math.max(0, Math.min(turns.length - 1, upper[0] + quotient));
        turns[at] += down ? 1 : -1;
        passed[at]++;
    }

    private int[] covers(int row, int rule) {
        int[] covers = units(row, rule);
        for (int x = 0; x < width; x++) {
            covers[x] = (covers[x] * 255 + 2048) / 4096;
        }
        return covers;
    }

    private static void rule(int rule) {
        if (rule < 0 || rule > 1) {
            throw new IllegalArgumentException("no such rule");
        }
    }

    private void plane(int plane) {
        if (plane < 0 || plane >= planes) {
            throw new ArrayIndexOutOfBoundsException("no such plane");
        }
    }

    int fill(int rule, int plane, int v) {
        rule(rule);
        plane(plane);
        int count = 0;
        for (int y = from; y < to; y++) {
            int[] covers = covers(y, rule);
            for (int x = 0; x < width; x++) {
                int c = (covers[x] * clip[y * width + x] + 127) / 255;
                if (c > 0) {
                    count++;
                    paint(y * width + x, plane, ((v % 256) + 256) % 256, c);
                }
            }
        }
        path = new ArrayList<>();
        fills++;
        return count;
    }

    private void paint(int at, int plane, int v, int c) {
        for (int p = 0; p < planes; p++) {
            int old = bytes[p][at];
            if (p == plane) {
                bytes[p][at] = (old * (255 - c) + v * c + 127) / 255;
            } else if (!over[p]) {
                bytes[p][at] = (old * (255 - c) + 127) / 255;
            }
        }
    }

    int clip(int rule) {
        rule(rule);
        int count = 0;
        for (int y = 0; y < height; y++) {
            int[] covers = covers(y, rule);
            for (int x = 0; x < width; x++) {
                int at = y * width + x;
                clip[at] = (clip[at] * covers[x] + 127) / 255;
                count += clip[at] > 0 ? 1 : 0;
            }
        }
        path = new ArrayList<>();
        return count;
    }

    int end() {
        int before = fills;
        fills = 0;
        path = new ArrayList<>();
        Arrays.fill(clip, 255);
        return before;
    }

    private void point(int x, int y) {
        if (x < 0 || y < 0 || x >= width || y >= height) {
            throw new ArrayIndexOutOfBoundsException("no such point");
        }
    }

    int point(int x, int y, int plane) {
        point(x, y);
        plane(plane);
        return bytes[plane][y * width + x];
    }

    int cover(int x, int y) {
        point(x, y);
        return covers(y, 0)[x];
    }

    int band(int first, int behind) {
        from = Math.max(0, first);
        to = Math.min(height, behind);
        int rows = 0;
        for (int y = from; y < to; y++) {
            rows++;
        }
        return rows;
    }

    boolean same(int bands) {
        return !(bands < 1 || bands > height);
    }

    byte[] pack() {
        ByteArrayOutputStream out = new ByteArrayOutputStream();
        for (int p = 0; p < planes; p++) {
            for (int y = 0; y < height; y++) {
                packRow(Arrays.copyOfRange(bytes[p], y * width, y * width + width), out);
            }
        }
        return out.toByteArray();
    }

    private static void packRow(int[] row, ByteArrayOutputStream out) {
        int at = 0;
        while (at < row.length) {
            int run = 1;
            while (run < 64 && at + run < row.length && row[at + run] == row[at]) {
                run++;
            }
            if (run >= 2) {
                out.write(128 - run);
                out.write(row[at]);
                at += run;
                continue;
            }
            int singles = 1;
            while (singles < 64 && at + singles < row.length
                    && (at + singles + 1 == row.length || row[at + singles] != row[at + singles + 1])) {
                singles++;
            }
            out.write(singles);
            for (int i = 0; i < singles; i++) {
                out.write(row[at + i]);
            }
            at += singles;
        }
    }

    byte packed(int i) {
        byte[] all = pack();
        if (i < 0 || i >= all.length) {
            throw new ArrayIndexOutOfBoundsException("no such byte");
        }
        return all[i];
    }

    int over(int plane, boolean on) {
        plane(plane);
        int before = over[plane] ? 1 : 0;
        over[plane] = on;
        return before;
    }
}
