/** Promise 11. */
public final class SameTest {
    public static void main(String[] args) {
        isTrue();
        isFalse();
        changesNothing();
        coversOfBands();
        Check.finish();
    }

    private static void isTrue() {
        Check.promise(11, "would have the covers of the path (by both rules) that it has as a whole: true");
        for (int height = 1; height <= 48; height++) {
            RasterCover r = new RasterCover(2, height, 1);
            r.hair(0, 0, 512, 256 * height);
            Shapes.box(r, 512, 100, 0, 99999);
            for (int bands = 1; bands <= height; bands++) {
                Check.due("bands " + bands + " of height " + height, r.same(bands), true);
            }
        }
        Check.due("without a path", new RasterCover(1, 3, 1).same(2), true);
        Check.due("without points in the rows", new RasterCover(0, 2, 1).same(2), true);
        Check.due("without planes", new RasterCover(2, 2, 0).same(1), true);
    }

    private static void isFalse() {
        Check.promise(11, "False when bands is not 1 .. height.");
        for (int height : new int[] {0, 1, 2, 5, 47, 48, 49}) {
            RasterCover r = new RasterCover(1, height, 1);
            int rows = Math.min(48, height);
            for (int bands : new int[] {Integer.MIN_VALUE, -1, 0, rows + 1, rows + 2, Integer.MAX_VALUE}) {
                Check.due("bands " + bands + " of height " + height, r.same(bands), false);
            }
            Check.due("bands 1 of height " + height, r.same(1), rows > 0);
            Check.due("bands " + rows + " of height " + height, r.same(rows), rows > 0);
        }
        Check.due("a height below 0", new RasterCover(3, -1, 1).same(1), false);
    }

    private static void changesNothing() {
        Check.promise(11, "Whether the surface in so many bands of rows, one after the other");
        RasterCover r = new RasterCover(2, 5, 1);
        Shapes.all(r);
        r.same(3);
        r.same(9);
        Check.due("the path stays", r.cover(1, 4), 255);
        Check.due("the band stays", r.fill(0, 0, 9), 10);
        Check.due("it is no fill", r.end(), 1);
    }

    /** What the promise says, seen from outside: fills band by band are those of the whole. */
    private static void coversOfBands() {
        Check.promise(11, "would have the covers of the path (by both rules) that it has as a whole");
        for (int rule = 0; rule <= 1; rule++) {
            RasterCover whole = new RasterCover(4, 7, 1);
            drawn(whole);
            whole.fill(rule, 0, 255);
            RasterCover parts = new RasterCover(4, 7, 1);
            int[] borders = {0, 2, 4, 7};
            for (int i = 0; i + 1 < borders.length; i++) {
                parts.band(borders[i], borders[i + 1]);
                drawn(parts);
                parts.fill(rule, 0, 255);
            }
            for (int i = 0; i < 28; i++) {
                int x = i % 4;
                int y = i / 4;
                Check.due("rule " + rule + ", point " + x + ", " + y, parts.point(x, y, 0), whole.point(x, y, 0));
            }
        }
    }

    private static void drawn(RasterCover r) {
        Shapes.path(r, 100, -300, 900, 700, 300, 2100, 50, 800);
        Shapes.path(r, 700, 100, 200, 1500, 1100, 1200);
        r.hair(10, 1700, 1000, 200);
    }
}
