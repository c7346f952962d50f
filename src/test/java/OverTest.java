/** Promise 13. */
public final class OverTest {
    public static void main(String[] args) {
        overOrNot();
        whatItWas();
        itStays();
        noSuchPlane();
        Check.finish();
    }

    private static void overOrNot() {
        Check.promise(13, "A plane is OVER, or not");
        RasterCover r = new RasterCover(1, 1, 2);
        r.over(0, true);
        Shapes.fillAll(r, 0, 9);
        Shapes.fillAll(r, 1, 8);
        Check.due("over", r.point(0, 0, 0), 9);
        r.over(0, false);
        Check.due("that changes no byte", r.point(0, 0, 0), 9);
        Shapes.fillAll(r, 1, 7);
        Check.due("not over", r.point(0, 0, 0), 0);
        Check.due("the plane that is filled", r.point(0, 0, 1), 7);
    }

    private static void whatItWas() {
        Check.promise(13, "what it was (1, or 0)");
        RasterCover r = new RasterCover(1, 1, 4);
        for (int plane = 0; plane < 4; plane++) {
            Check.due("at first, plane " + plane, r.over(plane, true), 0);
            Check.due("over, and over again, plane " + plane, r.over(plane, true), 1);
            Check.due("over, and no more, plane " + plane, r.over(plane, false), 1);
            Check.due("not over, and not again, plane " + plane, r.over(plane, false), 0);
            Check.due("not over, and over, plane " + plane, r.over(plane, plane % 2 == 0), 0);
        }
        for (int plane = 0; plane < 4; plane++) {
            Check.due("each for itself, plane " + plane, r.over(plane, true), 1 - plane % 2);
        }
    }

    private static void itStays() {
        Check.promise(13, "A plane is OVER, or not");
        RasterCover r = new RasterCover(1, 1, 1);
        r.over(0, true);
        Shapes.fillAll(r, 0, 9);
        r.clip(0);
        r.end();
        r.band(0, 0);
        Check.due("behind a fill, a clip, an end, a band", r.over(0, false), 1);
    }

    private static void noSuchPlane() {
        Check.promise(13, "ArrayIndexOutOfBoundsException.");
        for (int planes = 0; planes <= 4; planes++) {
            RasterCover r = new RasterCover(1, 1, planes);
            Check.noSuch("of " + planes + ", plane", planes, plane -> r.over(plane, true));
            Check.noSuch("of " + planes + ", plane, not over,", planes, plane -> r.over(plane, false));
            if (planes > 0) {
                Check.due("of " + planes + ", the first plane", r.over(0, false), 0);
                Check.due("of " + planes + ", the last plane", r.over(planes - 1, false), 0);
            }
        }
        RasterCover none = new RasterCover(0, 0, 2);
        Check.due("without points there are planes", none.over(1, true), 0);
        Check.throwing("but no third of two", Check.NO_SUCH, () -> none.over(2, true));
    }
}
