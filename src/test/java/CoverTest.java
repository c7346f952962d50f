/** Promise 9. */
public final class CoverTest {
    public static void main(String[] args) {
        asItIs();
        byRule0();
        withoutTheClip();
        changesNothing();
        noSuchPoint();
        Check.finish();
    }

    private static void asItIs() {
        Check.promise(9, "The COVER of a point by the path as it is");
        RasterCover r = new RasterCover(3, 2, 0);
        Check.due("no path", r.cover(2, 1), 0);
        r.move(256, 0);
        Check.due("a point", r.cover(1, 0), 0);
        r.line(512, 0);
        Check.due("a line", r.cover(1, 0), 0);
        r.line(512, 256);
        Check.due("a path that is not closed yet", r.cover(1, 0), 128);
        r.line(256, 256);
        Check.due("one point more", r.cover(1, 0), 255);
        Check.due("the point to the left", r.cover(0, 0), 0);
        Check.due("the point to the right", r.cover(2, 0), 0);
        Check.due("the point below", r.cover(1, 1), 0);
        Shapes.box(r, 512, 256, 640, 512);
        Check.due("one subpath more", r.cover(2, 1), 128);
        r.end();
        Check.due("no path again", r.cover(1, 0), 0);
    }

    private static void byRule0() {
        Check.promise(9, "by rule 0");
        RasterCover r = new RasterCover(2, 2, 1);
        Shapes.all(r);
        Shapes.all(r);
        Check.due("twice the same", r.cover(1, 1), 255);
        Check.due("of which rule 1 leaves nothing", r.fill(1, 0, 9), 0);
        Check.due("it is gone by then", r.cover(1, 1), 0);
        Shapes.box(r, 0, 0, 512, 512);
        Shapes.box(r, 512, 0, 0, 512);
        Check.due("one against the other", r.cover(1, 1), 0);
    }

    private static void withoutTheClip() {
        Check.promise(9, "(without the clip)");
        RasterCover r = new RasterCover(2, 2, 1);
        r.clip(0);
        Shapes.all(r);
        Check.due("in a closed clip", r.cover(1, 1), 255);
        r.band(0, 0);
        Check.due("without a band", r.cover(0, 0), 255);
        Check.due("of which nothing is filled", r.fill(0, 0, 9), 0);
    }

    private static void changesNothing() {
        Check.promise(9, "The COVER of a point by the path as it is");
        RasterCover r = new RasterCover(2, 1, 1);
        Shapes.box(r, 0, 0, 384, 256);
        Check.due("a whole one", r.cover(0, 0), 255);
        Check.due("a half", r.cover(1, 0), 128);
        Check.due("the whole one again", r.cover(0, 0), 255);
        Check.due("the path stays", r.fill(0, 0, 255), 2);
        Check.due("as it was", r.point(1, 0, 0), 128);
    }

    private static void noSuchPoint() {
        Check.promise(9, "ArrayIndexOutOfBoundsException.");
        RasterCover r = new RasterCover(4, 3, 2);
        Shapes.all(r);
        Check.noSuch("x", 4, x -> r.cover(x, 0));
        Check.noSuch("x of the last row", 4, x -> r.cover(x, 2));
        Check.noSuch("y", 3, y -> r.cover(0, y));
        Check.noSuch("y of the last points", 3, y -> r.cover(3, y));
        Check.noSuch("both", 4, i -> r.cover(i, i));
        Check.due("the first", r.cover(0, 0), 255);
        Check.due("the last", r.cover(3, 2), 255);
        Check.throwing("without a width", Check.NO_SUCH, () -> new RasterCover(0, 3, 2).cover(0, 0));
        Check.throwing("without a height", Check.NO_SUCH, () -> new RasterCover(4, 0, 2).cover(0, 0));
    }
}
