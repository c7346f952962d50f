/** Promise 1, and what the document says of an object before its Terms. */
public final class NewObjectTest {
    private static final int LEAST = Integer.MIN_VALUE;
    private static final int MOST = Integer.MAX_VALUE;
    private static final int[][] SIDES = {
        {LEAST, 0}, {-1, 0}, {0, 0}, {1, 1}, {2, 2}, {47, 47}, {48, 48}, {49, 48}, {96, 48}, {256, 48}, {MOST, 48},
    };
    private static final int[][] PLANES = {
        {LEAST, 0}, {-1, 0}, {0, 0}, {1, 1}, {2, 2}, {3, 3}, {4, 4}, {5, 4}, {256, 4}, {MOST, 4},
    };

    public static void main(String[] args) {
        widthIsCut();
        heightIsCut();
        planesAreCut();
        surfacesWithoutPoints();
        bytesAre0();
        noPath();
        allRowsAreInTheBand();
        noPlaneIsOver();
        noFills();
        holdsFor512Calls();
        Check.finish();
    }

    private static void widthIsCut() {
        Check.promise(1, "(Width and height are cut to 0 .. 48, planes to 0 .. 4.)");
        for (int[] side : SIDES) {
            RasterCover r = new RasterCover(side[0], 1, 1);
            Check.due("points of width " + side[0], Shapes.fillAll(r, 0, 9), side[1]);
            if (side[1] > 0) {
                Check.due("the last point of width " + side[0], r.point(side[1] - 1, 0, 0), 9);
            }
            Check.noSuch("x, of width " + side[0] + ", point", side[1], x -> r.point(x, 0, 0));
        }
    }

    private static void heightIsCut() {
        Check.promise(1, "(Width and height are cut to 0 .. 48, planes to 0 .. 4.)");
        for (int[] side : SIDES) {
            RasterCover r = new RasterCover(1, side[0], 1);
            Check.due("points of height " + side[0], Shapes.fillAll(r, 0, 9), side[1]);
            if (side[1] > 0) {
                Check.due("the last point of height " + side[0], r.point(0, side[1] - 1, 0), 9);
            }
            Check.noSuch("y, of height " + side[0] + ", point", side[1], y -> r.point(0, y, 0));
        }
    }

    private static void planesAreCut() {
        Check.promise(1, "(Width and height are cut to 0 .. 48, planes to 0 .. 4.)");
        for (int[] planes : PLANES) {
            RasterCover r = new RasterCover(1, 1, planes[0]);
            if (planes[1] > 0) {
                Check.due("a fill of the last of planes " + planes[0], Shapes.fillAll(r, planes[1] - 1, 9), 1);
                Check.due("the last of planes " + planes[0], r.point(0, 0, planes[1] - 1), 9);
            }
            Check.noSuch("of planes " + planes[0] + ", plane", planes[1], plane -> r.point(0, 0, plane));
        }
    }

    private static void surfacesWithoutPoints() {
        Check.promise(1, "(Width and height are cut to 0 .. 48, planes to 0 .. 4.)");
        RasterCover flat = new RasterCover(-1, 3, 1);
        Check.due("a width of 0 has rows", flat.band(0, 9), 3);
        Check.due("but no points to fill", Shapes.fillAll(flat, 0, 1), 0);
        Shapes.all(flat);
        Check.due("nor to clip", flat.clip(1), 0);
        Check.throwing("nor to read", Check.NO_SUCH, () -> flat.point(0, 0, 0));
        RasterCover low = new RasterCover(3, 0, 1);
        Check.due("a height of 0 has no rows", low.band(0, 9), 0);
        Check.due("and no points to fill", Shapes.fillAll(low, 0, 1), 0);
        Check.throwing("nor to cover", Check.NO_SUCH, () -> low.cover(0, 0));
        RasterCover bare = new RasterCover(2, 2, 0);
        Shapes.all(bare);
        Check.due("without planes there are points to cover", bare.cover(1, 1), 255);
        Check.due("and to clip", bare.clip(0), 4);
        Check.throwing("but none to fill", Check.NO_SUCH, () -> bare.fill(0, 0, 1));
        RasterCover none = new RasterCover(LEAST, LEAST, LEAST);
        Check.due("a path needs no surface", none.move(1, 1), 1);
        Check.due("nor does its end", none.end(), 0);
    }

    private static void bytesAre0() {
        Check.promise(1, "A surface of bytes 0");
        RasterCover r = new RasterCover(48, 48, 4);
        for (int row = 0; row < 4 * 48; row++) {
            Check.due("row " + row + " is one run", r.packed(2 * row), 128 - 48);
            Check.due("row " + row + " is of bytes 0", r.packed(2 * row + 1), 0);
        }
        Check.due("the first byte", r.point(0, 0, 0), 0);
        Check.due("the last byte", r.point(47, 47, 3), 0);
    }

    private static void noPath() {
        Check.promise(1, "no path");
        RasterCover r = new RasterCover(2, 1, 1);
        Check.due("no cover of the first point", r.cover(0, 0), 0);
        Check.due("no cover of the last point", r.cover(1, 0), 0);
        Check.throwing("no point to draw a line from", Check.NO_POINT, () -> r.line(0, 0));
        Check.due("nothing to fill", r.fill(1, 0, 9), 0);
        Check.due("the first point is the only one", r.move(0, 0), 1);
    }

    private static void allRowsAreInTheBand() {
        Check.promise(1, "all rows are in the band");
        RasterCover r = new RasterCover(1, 48, 1);
        Check.due("rows that are filled", Shapes.fillAll(r, 0, 7), 48);
        Check.due("the first row", r.point(0, 0, 0), 7);
        Check.due("the last row", r.point(0, 47, 0), 7);
    }

    private static void noPlaneIsOver() {
        Check.promise(1, "no plane is over");
        RasterCover r = new RasterCover(1, 1, 4);
        for (int plane = 0; plane < 4; plane++) {
            Shapes.fillAll(r, plane, 200 + plane);
            Check.due("plane " + plane, r.point(0, 0, plane), 200 + plane);
            Check.due("the plane before is knocked out", plane == 0 ? 0 : r.point(0, 0, plane - 1), 0);
        }
        for (int plane = 0; plane < 4; plane++) {
            Check.due("what plane " + plane + " was", r.over(plane, false), 0);
        }
    }

    private static void noFills() {
        Check.promise(7, "how many fills there were since the last end()");
        Check.due("of a new object", new RasterCover(1, 1, 1).end(), 0);
    }

    private static void holdsFor512Calls() {
        Check.opening("An object is used for at most 512 calls after it has been made");
        RasterCover fills = new RasterCover(1, 1, 1);
        for (int call = 1; call < 512; call++) {
            fills.fill(0, 0, 1);
        }
        Check.due("the 512th call, behind 511 fills", fills.end(), 511);
        RasterCover refused = new RasterCover(1, 1, 1);
        Shapes.all(refused);
        for (int call = 5; call < 512; call++) {
            Check.throwing("call " + call, Check.BAD_RULE, () -> refused.fill(2, 0, 1));
        }
        Check.due("the 512th call, behind refused ones", refused.cover(0, 0), 255);
        RasterCover clips = new RasterCover(48, 48, 4);
        for (int call = 5; call <= 510; call += 5) {
            Shapes.all(clips);
            Check.due("call " + call, clips.clip(1), 48 * 48);
        }
        Check.due("call 511", clips.move(0, 0), 1);
        Check.due("the 512th call, behind 102 clips", clips.line(0, 0), 2);
    }
}
