/** Promise 8. */
public final class PointTest {
    public static void main(String[] args) {
        bytes();
        itsOwnPlace();
        noSuchPoint();
        Check.finish();
    }

    private static void bytes() {
        Check.promise(8, "A plane's byte at a point, 0 .. 255.");
        RasterCover r = new RasterCover(1, 1, 1);
        for (int v : new int[] {0, 1, 127, 128, 254, 255}) {
            Shapes.fillAll(r, 0, v);
            Check.due("the byte " + v, r.point(0, 0, 0), v);
            Check.due("read again", r.point(0, 0, 0), v);
        }
    }

    private static void itsOwnPlace() {
        Check.promise(8, "A plane's byte at a point");
        RasterCover r = new RasterCover(3, 2, 2);
        r.over(0, true);
        r.over(1, true);
        for (int i = 0; i < 12; i++) {
            int x = i % 3;
            int y = i / 3 % 2;
            Shapes.fillBox(r, i / 6, 10 + i, 256 * x, 256 * y, 256 * x + 256, 256 * y + 256);
        }
        for (int i = 0; i < 12; i++) {
            Check.due("x " + i % 3 + ", y " + i / 3 % 2 + ", plane " + i / 6, r.point(i % 3, i / 3 % 2, i / 6), 10 + i);
        }
    }

    private static void noSuchPoint() {
        Check.promise(8, "ArrayIndexOutOfBoundsException.");
        RasterCover r = new RasterCover(4, 3, 2);
        Check.noSuch("x", 4, x -> r.point(x, 0, 0));
        Check.noSuch("x of the last row", 4, x -> r.point(x, 2, 1));
        Check.noSuch("y", 3, y -> r.point(0, y, 0));
        Check.noSuch("y of the last plane", 3, y -> r.point(3, y, 1));
        Check.noSuch("plane", 2, plane -> r.point(0, 0, plane));
        Check.noSuch("plane of the last point", 2, plane -> r.point(3, 2, plane));
        Check.noSuch("all three", 4, i -> r.point(i, i, i));
        Check.due("the first", r.point(0, 0, 0), 0);
        Check.due("the last", r.point(3, 2, 1), 0);
        Check.throwing("without planes", Check.NO_SUCH, () -> new RasterCover(4, 3, 0).point(0, 0, 0));
        Check.throwing("without a width", Check.NO_SUCH, () -> new RasterCover(0, 3, 2).point(0, 0, 0));
        Check.throwing("without a height", Check.NO_SUCH, () -> new RasterCover(4, 0, 2).point(0, 0, 0));
    }
}
