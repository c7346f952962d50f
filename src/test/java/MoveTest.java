/** Promise 2. */
public final class MoveTest {
    public static void main(String[] args) {
        aSubpathBegins();
        howManyPoints();
        countsFrom0Again();
        full();
        Check.finish();
    }

    private static void aSubpathBegins() {
        Check.promise(2, "A subpath begins");
        RasterCover r = new RasterCover(2, 1, 0);
        Shapes.path(r, 0, 0, 128, 0, 128, 256, 0, 256);
        r.move(256, 0);
        r.line(384, 0);
        r.line(384, 256);
        r.line(256, 256);
        Check.due("the subpath before it", r.cover(0, 0), 128);
        Check.due("the subpath", r.cover(1, 0), 128);
    }

    private static void howManyPoints() {
        Check.promise(2, "how many points the path has");
        RasterCover r = new RasterCover(1, 1, 0);
        Check.due("the first", r.move(5, 5), 1);
        Check.due("the same place again", r.move(5, 5), 2);
        r.line(7, 7);
        Check.due("behind a line", r.move(5, 5), 4);
        r.hair(0, 0, 9, 9);
        Check.due("behind a hair", r.move(Long.MIN_VALUE, Long.MAX_VALUE), 9);
    }

    private static void countsFrom0Again() {
        Check.promise(2, "how many points the path has");
        RasterCover r = new RasterCover(1, 1, 1);
        r.move(1, 1);
        r.fill(0, 0, 1);
        Check.due("behind a fill", r.move(1, 1), 1);
        r.clip(0);
        Check.due("behind a clip", r.move(1, 1), 1);
        r.end();
        Check.due("behind an end", r.move(1, 1), 1);
    }

    private static void full() {
        Check.promise(2, "UnsupportedOperationException when there are 100.");
        RasterCover r = new RasterCover(1, 1, 1);
        Shapes.all(r);
        for (int i = 5; i <= 98; i++) {
            r.move(0, 0);
        }
        Check.due("when there are 98", r.move(0, 0), 99);
        Check.due("when there are 99", r.move(0, 0), 100);
        Check.throwing("when there are 100", Check.NO_ROOM, () -> r.move(0, 0));
        Check.throwing("and again", Check.NO_ROOM, () -> r.move(0, 0));
        Check.due("the path stays", r.cover(0, 0), 255);
        r.fill(0, 0, 1);
        Check.due("when they are gone", r.move(0, 0), 1);
        for (int i = 2; i <= 100; i++) {
            r.line(i, i);
        }
        Check.throwing("when there are 100 by lines", Check.NO_ROOM, () -> r.move(0, 0));
        r.end();
        for (int i = 4; i <= 100; i += 4) {
            r.hair(i, i, 0, 0);
        }
        Check.throwing("when there are 100 by hairs", Check.NO_ROOM, () -> r.move(0, 0));
    }
}
