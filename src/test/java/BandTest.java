/** Promise 10. */
public final class BandTest {
    private static final int LEAST = Integer.MIN_VALUE;
    private static final int MOST = Integer.MAX_VALUE;
    private static final int HEIGHT = 6;

    public static void main(String[] args) {
        rowsFromTo();
        cutToTheSurface();
        noRows();
        fromNowOn();
        Check.finish();
    }

    /** The band that a call makes has just the rows first .. behind - 1. */
    private static void bandDue(int from, int to, int first, int behind) {
        String call = "band(" + from + ", " + to + ")";
        RasterCover r = new RasterCover(1, HEIGHT, 1);
        Check.due(call, r.band(from, to), behind - first);
        Check.due(call + ", filled rows", Shapes.fillAll(r, 0, 9), behind - first);
        for (int y = 0; y < HEIGHT; y++) {
            Check.due(call + ", row " + y, r.point(0, y, 0), y >= first && y < behind ? 9 : 0);
        }
    }

    private static void rowsFromTo() {
        Check.promise(10, "Fills are done in rows from .. to - 1 alone");
        bandDue(2, 4, 2, 4);
        bandDue(2, 3, 2, 3);
        bandDue(0, 1, 0, 1);
        bandDue(0, HEIGHT - 1, 0, HEIGHT - 1);
        bandDue(1, HEIGHT, 1, HEIGHT);
        bandDue(0, HEIGHT, 0, HEIGHT);
        bandDue(HEIGHT - 1, HEIGHT, HEIGHT - 1, HEIGHT);
    }

    private static void cutToTheSurface() {
        Check.promise(10, "(cut to the surface): how many rows that are");
        bandDue(-1, HEIGHT, 0, HEIGHT);
        bandDue(0, HEIGHT + 1, 0, HEIGHT);
        bandDue(LEAST, MOST, 0, HEIGHT);
        bandDue(LEAST, 1, 0, 1);
        bandDue(-1, 1, 0, 1);
        bandDue(HEIGHT - 1, HEIGHT + 1, HEIGHT - 1, HEIGHT);
        bandDue(HEIGHT - 1, MOST, HEIGHT - 1, HEIGHT);
        bandDue(-1, 0, 0, 0);
        bandDue(LEAST, -1, 0, 0);
        bandDue(HEIGHT, HEIGHT + 1, 0, 0);
        bandDue(HEIGHT, MOST, 0, 0);
        bandDue(HEIGHT + 1, HEIGHT + 2, 0, 0);
        Check.due("a surface without rows", new RasterCover(3, 0, 1).band(0, 5), 0);
        Check.due("a surface without columns", new RasterCover(0, 3, 1).band(1, 5), 2);
        Check.due("a height that is cut", new RasterCover(1, 99, 1).band(0, 99), 48);
    }

    private static void noRows() {
        Check.promise(10, "how many rows that are");
        bandDue(0, 0, 0, 0);
        bandDue(3, 3, 0, 0);
        bandDue(HEIGHT, HEIGHT, 0, 0);
        bandDue(4, 3, 0, 0);
        bandDue(4, 2, 0, 0);
        bandDue(HEIGHT, 0, 0, 0);
        bandDue(MOST, LEAST, 0, 0);
        bandDue(HEIGHT + 3, -3, 0, 0);
    }

    private static void fromNowOn() {
        Check.promise(10, "from now on");
        RasterCover r = new RasterCover(1, HEIGHT, 1);
        Shapes.fillAll(r, 0, 1);
        Shapes.all(r);
        Check.due("behind a path, before its fill", r.band(1, 3), 2);
        Check.due("its fill", r.fill(0, 0, 2), 2);
        Check.due("the fill before it stays", r.point(0, 0, 0), 1);
        Check.due("each fill behind it", Shapes.fillAll(r, 0, 3), 2);
        r.end();
        Check.due("behind an end too", Shapes.fillAll(r, 0, 4), 2);
        Check.due("another band, not inside the first", r.band(3, HEIGHT), 3);
        Check.due("its fill", Shapes.fillAll(r, 0, 5), 3);
        r.band(5, 4);
        Check.due("no band", Shapes.fillAll(r, 0, 6), 0);
        Check.due("all rows again", r.band(0, HEIGHT), HEIGHT);
        Check.due("all are filled", Shapes.fillAll(r, 0, 7), HEIGHT);
    }
}
