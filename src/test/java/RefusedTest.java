/** "A call that throws changes nothing": each call that throws, and all that can be seen behind it. */
public final class RefusedTest {
    private interface Refused {
        void on(RasterCover r);
    }

    private static final int WIDTH = 3;
    private static final int HEIGHT = 2;
    private static final int PLANES = 2;

    public static void main(String[] args) {
        Check.terms("A call that throws changes nothing");
        ofWrongArguments();
        ofAFullPath();
        ofNoPath();
        namedFirst();
        noSuchPointPlaneOrByte();
        Check.finish();
    }

    /** A surface on which all that a call may change is neither as at first nor the same everywhere. */
    private static RasterCover drawn() {
        RasterCover r = new RasterCover(WIDTH, HEIGHT, PLANES);
        Shapes.fillBox(r, 0, 200, 0, 0, 384, 512);
        r.over(0, true);
        Shapes.fillBox(r, 1, 100, 256, 128, 768, 512);
        Shapes.box(r, 0, 0, 640, 512);
        r.clip(0);
        r.band(1, 2);
        Shapes.path(r, 0, 0, 700, 300, 100, 512);
        Shapes.box(r, 100, 100, 600, 500);
        return r;
    }

    private static void pointsDue(String what, RasterCover got, RasterCover want) {
        for (int i = 0; i < WIDTH * HEIGHT * PLANES; i++) {
            int x = i % WIDTH;
            int y = i / WIDTH % HEIGHT;
            int plane = i / WIDTH / HEIGHT;
            Check.due(what + ", the byte " + x + ", " + y + ", " + plane, got.point(x, y, plane), want.point(x, y, plane));
        }
    }

    /** One call after the other tells of the path, the planes, what is over, the clip, the band, and the fills. */
    private static void allDue(String what, RasterCover got, RasterCover want) {
        for (int i = 0; i < WIDTH * HEIGHT; i++) {
            Check.due(what + ", the cover " + i, got.cover(i % WIDTH, i / WIDTH), want.cover(i % WIDTH, i / WIDTH));
        }
        pointsDue(what, got, want);
        Check.due(what + ", the fill of what is in the band", got.fill(1, 1, 77), want.fill(1, 1, 77));
        pointsDue(what + ", filled", got, want);
        Shapes.all(got);
        Shapes.all(want);
        Check.due(what + ", the fill of the clip", got.fill(0, 1, 255), want.fill(0, 1, 255));
        pointsDue(what + ", the clip filled", got, want);
        Check.due(what + ", over, plane 0", got.over(0, false), want.over(0, false));
        Check.due(what + ", over, plane 1", got.over(1, false), want.over(1, false));
        Check.due(what + ", fills", got.end(), want.end());
    }

    private static void refused(String what, Class<? extends RuntimeException> due, Refused call) {
        RasterCover r = drawn();
        Check.throwing(what, due, () -> call.on(r));
        allDue(what, r, drawn());
        RasterCover twice = drawn();
        Check.throwing(what + ", once", due, () -> call.on(twice));
        Check.throwing(what + ", twice", due, () -> call.on(twice));
        allDue(what + ", twice", twice, drawn());
    }

    private static void ofWrongArguments() {
        refused("a fill by rule 2", Check.BAD_RULE, r -> r.fill(2, 0, 9));
        refused("a fill by rule -1", Check.BAD_RULE, r -> r.fill(-1, 1, 9));
        refused("a fill by rule 2 of plane 2", Check.BAD_RULE, r -> r.fill(2, 2, 9));
        refused("a fill of plane 2", Check.NO_SUCH, r -> r.fill(0, 2, 9));
        refused("a fill of plane -1", Check.NO_SUCH, r -> r.fill(1, -1, 9));
        refused("a clip by rule 2", Check.BAD_RULE, r -> r.clip(2));
        refused("a clip by rule -1", Check.BAD_RULE, r -> r.clip(-1));
        refused("a point of x 3", Check.NO_SUCH, r -> r.point(3, 0, 0));
        refused("a point of plane -1", Check.NO_SUCH, r -> r.point(0, 0, -1));
        refused("a cover of y 2", Check.NO_SUCH, r -> r.cover(0, 2));
        refused("a packed byte -1", Check.NO_SUCH, r -> r.packed(-1));
        refused("a packed byte 99", Check.NO_SUCH, r -> r.packed(99));
        refused("plane 2 over", Check.NO_SUCH, r -> r.over(2, true));
        refused("plane -1 not over", Check.NO_SUCH, r -> r.over(-1, false));
    }

    private static RasterCover drawnTo(int points) {
        RasterCover r = drawn();
        for (int i = 8; i <= points; i++) {
            r.line(37 * i % 700, 53 * i % 500);
        }
        return r;
    }

    private static void refusedBehind(int points, String what, Refused call) {
        RasterCover r = drawnTo(points);
        Check.throwing(what + " behind " + points, Check.NO_ROOM, () -> call.on(r));
        allDue(what + " behind " + points, r, drawnTo(points));
    }

    private static void ofAFullPath() {
        refusedBehind(100, "a move", r -> r.move(500, 20));
        refusedBehind(100, "a line", r -> r.line(500, 20));
        for (int points = 97; points <= 100; points++) {
            refusedBehind(points, "a hair", r -> r.hair(0, 0, 700, 20));
            refusedBehind(points, "an upright hair", r -> r.hair(0, 0, 20, 700));
            refusedBehind(points, "a dot", r -> r.hair(300, 300, 300, 300));
        }
    }

    private static RasterCover cleared() {
        RasterCover r = drawn();
        r.fill(0, 1, 3);
        return r;
    }

    private static void ofNoPath() {
        RasterCover r = cleared();
        Check.throwing("a line of no path", Check.NO_POINT, () -> r.line(1, 1));
        Check.throwing("a line of no path, again", Check.NO_POINT, () -> r.line(700, 700));
        allDue("a line of no path", r, cleared());
        Check.due("a move behind it", r.move(5, 5), 1);
        Check.due("a line behind that", r.line(6, 6), 2);
    }

    private static void namedFirst() {
        Check.terms("where several exceptions that a call names fit, it is the one that it names first");
        for (int planes = 0; planes <= 4; planes++) {
            RasterCover r = new RasterCover(2, 2, planes);
            int behind = planes;
            Check.throwing("rule 2 and a plane behind " + planes, Check.BAD_RULE, () -> r.fill(2, behind, 0));
            Check.throwing("rule -1 and plane -1 of " + planes, Check.BAD_RULE, () -> r.fill(-1, -1, 0));
            Check.throwing("a plane behind " + planes + " alone", Check.NO_SUCH, () -> r.fill(1, behind, 0));
        }
        RasterCover one = new RasterCover(2, 2, 1);
        Check.throwing("rule 2 alone", Check.BAD_RULE, () -> one.fill(2, 0, 0));
        Check.due("neither", one.fill(1, 0, 0), 0);
    }

    private static void noSuchPointPlaneOrByte() {
        Check.terms("ArrayIndexOutOfBoundsException: there is no such point, plane, or byte.");
        RasterCover r = new RasterCover(2, 1, 3);
        Check.noSuch("column", 2, x -> r.cover(x, 0));
        Check.noSuch("row", 1, y -> r.cover(0, y));
        Check.noSuch("plane", 3, plane -> r.over(plane, true));
        Check.noSuch("byte", 6, i -> r.packed(i));
        Check.due("the last of each", r.cover(1, 0) + r.over(2, false) + r.packed(5), 0);
    }
}
