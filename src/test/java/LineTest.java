/** Promise 3. */
public final class LineTest {
    public static void main(String[] args) {
        fromTheLastPoint();
        howManyPoints();
        noPoint();
        full();
        Check.finish();
    }

    private static void fromTheLastPoint() {
        Check.promise(3, "A line from the last point");
        RasterCover r = new RasterCover(2, 1, 0);
        Shapes.path(r, 0, 0, 128, 0, 128, 256, 0, 256);
        r.move(256, 0);
        r.line(512, 0);
        r.line(512, 256);
        Check.due("in the last subpath", r.cover(1, 0), 128);
        Check.due("not in the first", r.cover(0, 0), 128);
        r.line(512, 256);
        Check.due("a line to where it is", r.cover(1, 0), 128);
        r.line(256, 256);
        Check.due("one more", r.cover(1, 0), 255);
        r.end();
        r.hair(0, 0, 256, 0);
        r.line(0, 256);
        Check.due("from a hair's fourth point, (0, 128), in its subpath", r.cover(0, 0), 128);
    }

    private static void howManyPoints() {
        Check.promise(3, "how many points the path has");
        RasterCover r = new RasterCover(1, 1, 0);
        r.move(0, 0);
        Check.due("the second", r.line(9, 9), 2);
        Check.due("the same place again", r.line(9, 9), 3);
        r.move(0, 0);
        Check.due("behind a move", r.line(Long.MAX_VALUE, Long.MIN_VALUE), 5);
        r.hair(0, 0, 0, 0);
        Check.due("behind a hair", r.line(9, 9), 10);
    }

    private static void noPointDue(String what, RasterCover r) {
        Check.throwing(what, Check.NO_POINT, () -> r.line(1, 1));
        Check.throwing(what + ", again", Check.NO_POINT, () -> r.line(Long.MAX_VALUE, Long.MIN_VALUE));
        Check.due(what + ", a move", r.move(0, 0), 1);
        Check.due(what + ", a line behind the move", r.line(1, 1), 2);
    }

    private static void noPoint() {
        Check.promise(3, "IllegalStateException when there is none");
        RasterCover r = new RasterCover(1, 1, 1);
        noPointDue("of a new object", r);
        r.fill(0, 0, 1);
        noPointDue("behind a fill", r);
        r.clip(0);
        noPointDue("behind a clip", r);
        r.end();
        noPointDue("behind an end", r);
        r.end();
        for (int i = 1; i <= 100; i++) {
            r.move(0, 0);
        }
        r.clip(1);
        noPointDue("behind a full path", r);
        r.end();
        Check.due("a hair is enough", r.hair(0, 0, 9, 9), 4);
        Check.due("for a line", r.line(1, 1), 5);
    }

    private static void full() {
        Check.promise(3, "UnsupportedOperationException.");
        RasterCover r = new RasterCover(1, 1, 1);
        Shapes.all(r);
        r.move(0, 0);
        for (int i = 6; i <= 98; i++) {
            r.line(i, 0);
        }
        Check.due("when there are 98", r.line(0, 0), 99);
        Check.due("when there are 99", r.line(0, 0), 100);
        Check.throwing("when there are 100", Check.NO_ROOM, () -> r.line(0, 0));
        Check.throwing("and again", Check.NO_ROOM, () -> r.line(0, 0));
        Check.due("the path stays", r.cover(0, 0), 255);
        r.end();
        for (int i = 1; i <= 100; i++) {
            r.move(i, i);
        }
        Check.throwing("when there are 100 by moves", Check.NO_ROOM, () -> r.line(0, 0));
        r.end();
        for (int i = 4; i <= 100; i += 4) {
            r.hair(i, i, 0, 0);
        }
        Check.throwing("when there are 100 by hairs", Check.NO_ROOM, () -> r.line(0, 0));
    }
}
