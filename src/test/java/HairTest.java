/** Promise 4. */
public final class HairTest {
    private static final long MOST = 1048576;

    public static void main(String[] args) {
        subpathOfTheirOwn();
        acrossDraws();
        uprightDraws();
        dotDraws();
        atLeastAsFarAcross();
        cutPlacesTell();
        theFourAreNotCutAgain();
        onePointThick();
        howManyPoints();
        full();
        Check.finish();
    }

    /**
     * The hair covers what its four points cover, and goes about them the same way; a line then goes on from the
     * same last point, back to the same first one.
     */
    private static void hairDue(long x, long y, long u, long v, long... four) {
        String ends = "(" + x + ", " + y + ") to (" + u + ", " + v + ")";
        RasterCover hair = new RasterCover(5, 5, 0);
        RasterCover points = new RasterCover(5, 5, 0);
        RasterCover against = new RasterCover(5, 5, 0);
        hair.hair(x, y, u, v);
        Shapes.path(points, four);
        against.hair(x, y, u, v);
        Shapes.path(against, four[6], four[7], four[4], four[5], four[2], four[3], four[0], four[1]);
        coversDue(ends, hair, points);
        coversDue(ends + ", its way about", against, new RasterCover(5, 5, 0));
        hair.line(1203, 1071);
        points.line(1203, 1071);
        coversDue(ends + ", a line behind it", hair, points);
    }

    private static void coversDue(String what, RasterCover got, RasterCover want) {
        for (int i = 0; i < 25; i++) {
            Check.due(what + ", point " + i % 5 + ", " + i / 5, got.cover(i % 5, i / 5), want.cover(i % 5, i / 5));
        }
    }

    private static void subpathOfTheirOwn() {
        Check.promise(4, "Four points more, a subpath of their own (move, three lines)");
        RasterCover r = new RasterCover(3, 1, 0);
        Shapes.path(r, 0, 0, 256, 0, 256, 256);
        Check.due("four points more", r.hair(640, 0, 640, 256), 7);
        Check.due("the subpath before is closed", r.cover(0, 0), 128);
        Check.due("nothing between", r.cover(1, 0), 0);
        Check.due("the hair's own", r.cover(2, 0), 255);
        r.move(256, 0);
        Check.due("it is closed when the next one begins", r.cover(2, 0), 255);
        r.line(512, 0);
        r.line(512, 256);
        Check.due("the next one is its own too", r.cover(1, 0), 128);
    }

    private static void acrossDraws() {
        Check.promise(4, "(x, y - 128), (u, v - 128), (u, v + 128), (x, y + 128)");
        hairDue(200, 640, 1100, 640, 200, 512, 1100, 512, 1100, 768, 200, 768);
        hairDue(1100, 640, 200, 640, 1100, 512, 200, 512, 200, 768, 1100, 768);
        hairDue(200, 300, 1100, 900, 200, 172, 1100, 772, 1100, 1028, 200, 428);
        hairDue(1100, 300, 200, 900, 1100, 172, 200, 772, 200, 1028, 1100, 428);
        hairDue(640, 640, 641, 640, 640, 512, 641, 512, 641, 768, 640, 768);
        hairDue(640, 640, 639, 640, 640, 512, 639, 512, 639, 768, 640, 768);
        hairDue(-900, 640, 2100, 640, -900, 512, 2100, 512, 2100, 768, -900, 768);
    }

    private static void uprightDraws() {
        Check.promise(4, "else (x - 128, y), (u - 128, v), (u + 128, v), (x + 128, y)");
        hairDue(640, 200, 640, 1100, 512, 200, 512, 1100, 768, 1100, 768, 200);
        hairDue(640, 1100, 640, 200, 512, 1100, 512, 200, 768, 200, 768, 1100);
        hairDue(300, 200, 900, 1100, 172, 200, 772, 1100, 1028, 1100, 428, 200);
        hairDue(300, 1100, 900, 200, 172, 1100, 772, 200, 1028, 200, 428, 1100);
        hairDue(640, 640, 640, 660, 512, 640, 512, 660, 768, 660, 768, 640);
        hairDue(640, 660, 640, 640, 512, 660, 512, 640, 768, 640, 768, 660);
        hairDue(640, 648, 640, 649, 512, 648, 512, 649, 768, 649, 768, 648);
    }

    private static void dotDraws() {
        Check.promise(4, "where both ends are one: (x - 128, y - 128), (x + 128, y - 128), (x + 128, y + 128),"
                + " (x - 128, y + 128)");
        hairDue(640, 640, 640, 640, 512, 512, 768, 512, 768, 768, 512, 768);
        hairDue(0, 0, 0, 0, -128, -128, 128, -128, 128, 128, -128, 128);
        RasterCover r = new RasterCover(3, 3, 0);
        r.hair(384, 384, 384, 384);
        for (int i = 0; i < 9; i++) {
            Check.due("a dot, point " + i % 3 + ", " + i / 3, r.cover(i % 3, i / 3), i == 4 ? 255 : 0);
        }
        r.end();
        r.hair(384, 384, 385, 384);
        Check.due("a unit to the right is no dot", r.cover(1, 1), 1);
        r.end();
        r.hair(384, 384, 384, 383);
        Check.due("a unit up is no dot", r.cover(1, 1), 0);
        r.end();
        r.hair(384, 376, 384, 377);
        Check.due("a unit down is no dot, but covers its sub-row", r.cover(1, 1), 16);
    }

    private static void atLeastAsFarAcross() {
        Check.promise(4, "where it goes at least as far across as up or down");
        for (int right = -1; right <= 1; right += 2) {
            for (int down = -1; down <= 1; down += 2) {
                long x = 640 - 320 * right;
                long y = 640 - 320 * down;
                for (int more = -1; more <= 1; more++) {
                    farAsDue(x, y, x + right * (640 + more), y + down * 640);
                }
            }
        }
        farAsDue(640, 640, 641, 641);
        farAsDue(640, 640, 639, 641);
        farAsDue(640, 640, 641, 642);
        farAsDue(640, 640, 642, 641);
    }

    private static void farAsDue(long x, long y, long u, long v) {
        if (Math.abs(u - x) >= Math.abs(v - y)) {
            hairDue(x, y, u, v, x, y - 128, u, v - 128, u, v + 128, x, y + 128);
        } else {
            hairDue(x, y, u, v, x - 128, y, u - 128, v, u + 128, v, x + 128, y);
        }
    }

    /** Which way a hair between (512, 512) and far below on the right is drawn: across it reaches above that end. */
    private static void towardsDue(boolean across, long u, long v) {
        RasterCover to = new RasterCover(3, 3, 0);
        RasterCover from = new RasterCover(3, 3, 0);
        to.hair(512, 512, u, v);
        from.hair(u, v, 512, 512);
        String end = "(" + u + ", " + v + ")";
        Check.due("to " + end + ", above the other end", to.cover(2, 1) > 0, across);
        Check.due("to " + end + ", left of the other end", to.cover(1, 2) > 0, !across);
        Check.due("from " + end + ", above the other end", from.cover(2, 1) > 0, across);
        Check.due("from " + end + ", left of the other end", from.cover(1, 2) > 0, !across);
    }

    private static void cutPlacesTell() {
        Check.promise(4, "(of cut places; the four are not cut again)");
        towardsDue(true, MOST, MOST);
        towardsDue(true, MOST, MOST - 1);
        towardsDue(false, MOST - 1, MOST);
        towardsDue(true, MOST, MOST + 1);
        towardsDue(true, MOST + 1, MOST + 2);
        towardsDue(true, MOST + 2, MOST + 1);
        towardsDue(true, 1L << 40, Long.MAX_VALUE);
        towardsDue(false, MOST - 1, Long.MAX_VALUE);
        RasterCover r = new RasterCover(1, 1, 0);
        r.hair(Long.MIN_VALUE, Long.MIN_VALUE, 0, Long.MAX_VALUE);
        Check.due("twice as far down as across", r.cover(0, 0), 0);
        r.end();
        r.hair(0, Long.MIN_VALUE, Long.MAX_VALUE, Long.MAX_VALUE);
        Check.due("from above the surface to far below it", r.cover(0, 0), 0);
        farDotDue(124, MOST, MOST);
        farDotDue(124, MOST, MOST + 1);
        farDotDue(124, Long.MAX_VALUE, MOST);
        farDotDue(128, MOST - 1, MOST);
        farDotDue(128, Long.MAX_VALUE, MOST - 1);
    }

    /**
     * A line from a hair's last point, far to the right, to far on the left: where it comes by the surface tells
     * whether the hair was a dot, of which that point is half a point to the left.
     */
    private static void farDotDue(int want, long x, long u) {
        RasterCover r = new RasterCover(1, 4, 0);
        r.hair(x, 640, u, 640);
        r.line(-1048048, 1008);
        Check.due("a line behind a hair from x " + x + " to x " + u, r.cover(0, 3), want);
    }

    private static void farDue(int want, int px, int py, long x, long y, long u, long v) {
        RasterCover r = new RasterCover(9, 9, 0);
        r.hair(x, y, u, v);
        Check.due("(" + x + ", " + y + ") to (" + u + ", " + v + ")", r.cover(px, py), want);
    }

    /** Of each of these, the far end's points are seen one less when they are cut. */
    private static void theFourAreNotCutAgain() {
        Check.promise(4, "(of cut places; the four are not cut again)");
        farDue(135, 5, 1, -MOST, -MOST, 2633, 1728);
        farDue(183, 5, 0, 2994, 1664, -MOST, -MOST);
        farDue(183, 4, 5, -MOST, MOST, 1531, 982);
        farDue(49, 3, 3, 1414, 153, -MOST, MOST);
        farDue(121, 0, 2, -MOST, -MOST, 2552, 2929);
        farDue(144, 1, 4, 2125, 2783, -MOST, -MOST);
        farDue(64, 4, 3, MOST, -MOST, 489, 1357);
        farDue(190, 3, 1, 117, 1189, MOST, -MOST);
        farDue(135, 5, 1, Long.MIN_VALUE, -MOST - 1, 2633, 1728);
        farDue(190, 3, 1, 117, 1189, MOST + 1, Long.MIN_VALUE);
    }

    private static void onePointThick() {
        Check.promise(4, "a line from (x, y) to (u, v) one point thick");
        RasterCover r = new RasterCover(4, 4, 0);
        r.hair(0, 512, 1024, 512);
        Check.due("half a point above", r.cover(2, 1), 128);
        Check.due("half a point below", r.cover(2, 2), 128);
        Check.due("no further", r.cover(2, 0) + r.cover(2, 3), 0);
        r.end();
        r.hair(512, 1024, 512, 0);
        Check.due("half a point on the left", r.cover(1, 2), 128);
        Check.due("half a point on the right", r.cover(2, 2), 128);
        Check.due("no further beside it", r.cover(0, 2) + r.cover(3, 2), 0);
        r.end();
        r.hair(256, 640, 768, 640);
        Check.due("from its first end", r.cover(1, 2), 255);
        Check.due("to its last end", r.cover(2, 2), 255);
        Check.due("no further along it", r.cover(0, 2) + r.cover(3, 2), 0);
        r.end();
        r.hair(256, 256, 768, 768);
        Check.due("aslant, above its end", r.cover(1, 0), 32);
        Check.due("aslant, not left of its end", r.cover(0, 1), 0);
    }

    private static void howManyPoints() {
        Check.promise(4, "How many points the path has.");
        RasterCover r = new RasterCover(1, 1, 0);
        Check.due("across", r.hair(0, 0, 9, 0), 4);
        Check.due("upright", r.hair(0, 0, 0, 9), 8);
        Check.due("a dot", r.hair(9, 9, 9, 9), 12);
        r.move(0, 0);
        Check.due("behind a move", r.hair(0, 0, 0, 0), 17);
        r.end();
        Check.due("behind an end", r.hair(Long.MIN_VALUE, Long.MAX_VALUE, Long.MAX_VALUE, Long.MIN_VALUE), 4);
    }

    private static void full() {
        Check.promise(4, "UnsupportedOperationException when it would have more than 100.");
        for (int points = 94; points <= 100; points++) {
            RasterCover r = new RasterCover(1, 1, 0);
            for (int i = 0; i < points; i++) {
                r.move(i, i);
            }
            if (points + 4 <= 100) {
                Check.due("behind " + points, r.hair(0, 0, 0, 0), points + 4);
                Check.due("behind " + points + " it is drawn", r.cover(0, 0), 64);
            } else {
                refusedBehind(points, r);
            }
        }
    }

    private static void refusedBehind(int points, RasterCover r) {
        Check.throwing("a dot behind " + points, Check.NO_ROOM, () -> r.hair(0, 0, 0, 0));
        Check.throwing("a hair behind " + points, Check.NO_ROOM, () -> r.hair(0, 0, 256, 0));
        Check.throwing("an upright hair behind " + points, Check.NO_ROOM, () -> r.hair(0, 0, 0, 256));
        Check.due("behind " + points + " nothing is drawn", r.cover(0, 0), 0);
        if (points < 100) {
            Check.due("behind " + points + " a move", r.move(0, 0), points + 1);
        }
    }
}
