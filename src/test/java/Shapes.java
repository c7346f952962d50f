/** Paths and surfaces that many tests need. */
final class Shapes {
    static final int WHOLE = 4096;

    private Shapes() {
    }

    static void path(RasterCover r, long... places) {
        r.move(places[0], places[1]);
        for (int i = 2; i < places.length; i += 2) {
            r.line(places[i], places[i + 1]);
        }
    }

    static void box(RasterCover r, long left, long top, long right, long bottom) {
        path(r, left, top, right, top, right, bottom, left, bottom);
    }

    /** A box over all of any surface. */
    static void all(RasterCover r) {
        box(r, -999, -999, 99999, 99999);
    }

    static int fillBox(RasterCover r, int plane, int v, long left, long top, long right, long bottom) {
        box(r, left, top, right, bottom);
        return r.fill(0, plane, v);
    }

    static int fillAll(RasterCover r, int plane, int v) {
        all(r);
        return r.fill(0, plane, v);
    }

    /** A path that covers just so many units of point (0, 0). */
    static void units(RasterCover r, int units) {
        int wholeRows = units / 256;
        box(r, 0, 0, 256, 16 * wholeRows);
        box(r, 0, 16 * wholeRows, units % 256, 16 * wholeRows + 16);
    }

    /** A path of which point (0, 0) has just this cover: the least units that are rounded to it. */
    static void covering(RasterCover r, int cover) {
        units(r, cover == 0 ? 0 : (WHOLE * cover - 2048 + 254) / 255);
    }

    /** The cover of point (0, 0), the only one, by one path from its x, y, x, y .. */
    static int coverOf(long... places) {
        RasterCover r = new RasterCover(1, 1, 0);
        path(r, places);
        return r.cover(0, 0);
    }

    /** A surface of one row and one plane that has these bytes. */
    static RasterCover row(int... bytes) {
        RasterCover r = new RasterCover(bytes.length, 1, 1);
        for (int x = 0; x < bytes.length; x++) {
            fillBox(r, 0, bytes[x], 256L * x, 0, 256L * x + 256, 256);
        }
        return r;
    }
}
