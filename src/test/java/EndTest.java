/** Promise 7. */
public final class EndTest {
    public static void main(String[] args) {
        pathIsGone();
        clipIs255Everywhere();
        howManyFills();
        nothingElseChanges();
        Check.finish();
    }

    private static void pathIsGone() {
        Check.promise(7, "The path is gone");
        RasterCover r = new RasterCover(1, 1, 1);
        Shapes.all(r);
        r.end();
        Check.due("no cover is left", r.cover(0, 0), 0);
        Check.throwing("no point is left", Check.NO_POINT, () -> r.line(0, 0));
        Check.due("nothing is filled", r.fill(0, 0, 1), 0);
        for (int i = 1; i <= 100; i++) {
            r.move(0, 0);
        }
        r.end();
        Check.due("of a full path", r.move(0, 0), 1);
    }

    private static void clipIs255Everywhere() {
        Check.promise(7, "the clip 255 everywhere");
        RasterCover r = new RasterCover(3, 3, 1);
        r.clip(0);
        r.end();
        Check.due("where it was 0", Shapes.fillAll(r, 0, 200), 9);
        Check.due("wholly, in the first point", r.point(0, 0, 0), 200);
        Check.due("wholly, in the last point", r.point(2, 2, 0), 200);
        Shapes.box(r, 0, 0, 128, 999);
        r.clip(0);
        r.band(0, 1);
        r.end();
        r.band(2, 3);
        Check.due("where it was half, and not in the band", Shapes.fillAll(r, 0, 100), 3);
        Check.due("wholly", r.point(0, 2, 0), 100);
    }

    private static void howManyFills() {
        Check.promise(7, "how many fills there were since the last end()");
        RasterCover r = new RasterCover(1, 2, 1);
        Check.due("none at first", r.end(), 0);
        Shapes.fillAll(r, 0, 1);
        Check.due("one", r.end(), 1);
        Check.due("none since then", r.end(), 0);
        Shapes.fillAll(r, 0, 1);
        Shapes.fillAll(r, 0, 1);
        r.fill(1, 0, 1);
        Check.due("by both rules, without a path too", r.end(), 3);
        r.band(0, 0);
        Shapes.fillAll(r, 0, 1);
        Check.due("without a row", r.end(), 1);
        r.clip(0);
        Check.due("a clip is none", r.end(), 0);
        Check.throwing("a refused rule", Check.BAD_RULE, () -> r.fill(2, 0, 1));
        Check.throwing("a refused plane", Check.NO_SUCH, () -> r.fill(0, 1, 1));
        Check.due("refused ones are none", r.end(), 0);
        r.fill(0, 0, 1);
        Check.throwing("a refused one behind it", Check.BAD_RULE, () -> r.fill(-1, 0, 1));
        r.clip(1);
        Check.due("one among others", r.end(), 1);
        RasterCover flat = new RasterCover(0, 0, 1);
        flat.fill(0, 0, 1);
        Check.due("without a point", flat.end(), 1);
    }

    private static void nothingElseChanges() {
        Check.promise(7, "The path is gone, the clip 255 everywhere");
        RasterCover r = new RasterCover(1, 3, 2);
        Shapes.fillAll(r, 0, 5);
        r.over(0, true);
        r.band(1, 2);
        r.end();
        Check.due("bytes stay", r.point(0, 2, 0), 5);
        Check.due("the band stays", Shapes.fillAll(r, 1, 7), 1);
        Check.due("in its row", r.point(0, 1, 1), 7);
        Check.due("a plane stays over", r.point(0, 1, 0), 5);
        Check.due("and says so", r.over(0, true), 1);
        Check.due("the other one is not over", r.over(1, true), 0);
    }
}
