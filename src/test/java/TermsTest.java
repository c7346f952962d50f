/** The document's Terms: what the path, its crossings, the covers and the clip are. */
public final class TermsTest {
    private static final long MOST = 1048576;
    private static final long LEAST = -1048576;
    private static final long[] AT_MOST = {MOST, MOST + 1, MOST + 2, 1L << 32, (1L << 32) + 5, Long.MAX_VALUE};
    private static final long[] AT_LEAST = {LEAST, LEAST - 1, LEAST - 2, -1L << 32, -(1L << 32) - 5, Long.MIN_VALUE};

    public static void main(String[] args) {
        pointReaches();
        quotientsAreDownward();
        begunByAMove();
        closed();
        placesAcrossAreCut();
        placesDownAreCut();
        placesAcrossOfHairsAreCut();
        placesDownOfHairsAreCut();
        subRows();
        crosses();
        crossesFarAway();
        turns();
        insideByRule0();
        insideByRule1();
        insideBesideTheSurface();
        asManyCrossingsAsCanBe();
        unitsOfAPoint();
        coverIsRounded();
        clipAtFirst();
        mul();
        Check.finish();
    }

    /**
     * Where an edge crosses the one sub-row that it crosses of a surface of one point (at 0 .. 247): eight units left
     * of the rightmost straight side that leaves too little between itself and the edge for a cover.
     */
    private static int crossing(long x, long y, long u, long v) {
        for (int side = 256; side > 8; side--) {
            if (Shapes.coverOf(x, y, u, v, side, v, side, y) == 0) {
                return side - 8;
            }
        }
        return 0;
    }

    private static void crossingDue(int want, long x, long y, long u, long v) {
        String edge = "(" + x + ", " + y + ") to (" + u + ", " + v + ")";
        Check.due(edge, crossing(x, y, u, v), want);
        Check.due(edge + ", upwards", crossing(u, v, x, y), want);
    }

    private static void pointReaches() {
        Check.terms("reaches from (256 x, 256 y) to (256 x + 256, 256 y + 256)");
        RasterCover r = new RasterCover(3, 3, 0);
        Shapes.box(r, 256, 256, 512, 512);
        for (int i = 0; i < 9; i++) {
            Check.due("point " + i % 3 + ", " + i / 3, r.cover(i % 3, i / 3), i == 4 ? 255 : 0);
        }
        r.end();
        Shapes.box(r, 255, 256, 513, 512);
        Check.due("a unit to the left", r.cover(0, 1), 1);
        Check.due("a unit to the right", r.cover(2, 1), 1);
        r.end();
        Shapes.box(r, 256, 249, 512, 520);
        Check.due("below the last sub-row above", r.cover(1, 0), 0);
        Check.due("on the first sub-row below", r.cover(1, 2), 0);
        r.end();
        Shapes.box(r, 256, 248, 512, 521);
        Check.due("with the last sub-row above", r.cover(1, 0), 16);
        Check.due("with the first sub-row below", r.cover(1, 2), 16);
    }

    private static void quotientsAreDownward() {
        Check.terms("All quotients are downward.");
        crossingDue(10, 10, 0, 10, 16);
        crossingDue(10, 10, 0, 11, 16);
        crossingDue(11, 10, 0, 12, 16);
        crossingDue(11, 10, 0, 13, 16);
        crossingDue(12, 10, 0, 14, 16);
        crossingDue(9, 10, 0, 9, 16);
        crossingDue(9, 10, 0, 8, 16);
        crossingDue(8, 10, 0, 7, 16);
        crossingDue(8, 10, 0, 6, 16);
        crossingDue(7, 10, 0, 5, 16);
    }

    private static void begunByAMove() {
        Check.terms("A PATH is a row of SUBPATHS, each begun by a move, of points joined by lines");
        RasterCover r = new RasterCover(3, 1, 0);
        Shapes.box(r, 0, 0, 128, 256);
        Shapes.box(r, 512, 0, 640, 256);
        Check.due("the first subpath", r.cover(0, 0), 128);
        Check.due("nothing joins it to the second", r.cover(1, 0), 0);
        Check.due("the second subpath", r.cover(2, 0), 128);
        r.move(300, 0);
        r.move(400, 256);
        Check.due("moves alone are not joined", r.cover(1, 0), 0);
    }

    private static void closed() {
        Check.terms("each is closed by a line back to its first point");
        Check.due("three points", Shapes.coverOf(0, 0, 256, 0, 256, 256), 128);
        Check.due("closed by hand too", Shapes.coverOf(0, 0, 256, 0, 256, 256, 0, 0), 128);
        Check.due("one point", Shapes.coverOf(128, 128), 0);
        Check.due("two points", Shapes.coverOf(0, 0, 256, 256), 0);
        RasterCover r = new RasterCover(2, 1, 0);
        Shapes.path(r, 0, 0, 256, 0, 256, 256);
        r.move(256, 0);
        Check.due("when the next one begins", r.cover(0, 0), 128);
        r.line(512, 0);
        r.line(512, 256);
        Check.due("the second one to its own first point", r.cover(1, 0), 128);
        Check.due("and not over the first one", r.cover(0, 0), 128);
        Check.due("the point before", r.move(600, 600), 7);
        Check.due("a single point behind", r.cover(1, 0), 128);
    }

    private static void placesAcrossAreCut() {
        Check.terms("Places are cut to -1048576 .. 1048576.");
        for (long place : AT_MOST) {
            crossingDue(10, place, 7, -1048556, 9);
            crossingDue(9, place, 7, -1048557, 9);
        }
        crossingDue(9, MOST - 1, 7, -1048556, 9);
        crossingDue(9, MOST - 1, 7, -1048557, 9);
        for (long place : AT_LEAST) {
            crossingDue(74, place, 6, 524400, 9);
            crossingDue(76, place, 6, 524402, 9);
        }
        crossingDue(75, LEAST + 1, 6, 524400, 9);
        crossingDue(76, LEAST + 1, 6, 524402, 9);
    }

    private static void placesDownAreCut() {
        Check.terms("Places are cut to -1048576 .. 1048576.");
        for (long place : AT_LEAST) {
            crossingDue(100, -1048484, place, 116, 24);
            crossingDue(100, 524392, place, 92, 24);
        }
        crossingDue(99, -1048484, LEAST + 1, 116, 24);
        crossingDue(100, 524392, LEAST + 1, 92, 24);
        for (long place : AT_MOST) {
            crossingDue(100, 93, 240, 917387, place);
            crossingDue(100, 107, 240, -917187, place);
        }
        crossingDue(100, 93, 240, 917387, MOST - 1);
        crossingDue(99, 107, 240, -917187, MOST - 1);
    }

    private static int coverOfHair(long x, long y, long u, long v) {
        RasterCover r = new RasterCover(1, 1, 0);
        r.hair(x, y, u, v);
        return r.cover(0, 0);
    }

    private static void hairDue(int want, long x, long y, long u, long v) {
        String ends = "hair (" + x + ", " + y + ") to (" + u + ", " + v + ")";
        Check.due(ends, coverOfHair(x, y, u, v), want);
        Check.due(ends + ", turned about", coverOfHair(u, v, x, y), want);
    }

    private static void placesAcrossOfHairsAreCut() {
        Check.terms("Places are cut to -1048576 .. 1048576.");
        for (long place : AT_MOST) {
            hairDue(255, place, 135, -1048559, 137);
            hairDue(254, place, 135, -1048558, 137);
        }
        hairDue(255, MOST - 1, 135, -1048559, 137);
        hairDue(255, MOST - 1, 135, -1048558, 137);
        for (long place : AT_LEAST) {
            hairDue(255, place, 134, 524660, 137);
            hairDue(252, place, 133, 349813, 137);
        }
        hairDue(255, LEAST + 1, 134, 524660, 137);
        hairDue(253, LEAST + 1, 133, 349813, 137);
    }

    private static void placesDownOfHairsAreCut() {
        Check.terms("Places are cut to -1048576 .. 1048576.");
        for (long place : AT_LEAST) {
            hairDue(0, -523916, place, 384, 24);
            hairDue(0, 524668, place, 368, 24);
        }
        hairDue(1, -523916, LEAST + 1, 384, 24);
        hairDue(0, 524668, LEAST + 1, 368, 24);
        for (long place : AT_MOST) {
            hairDue(0, 917663, place, 369, 240);
            hairDue(0, -916911, place, 383, 240);
        }
        hairDue(0, 917663, MOST - 1, 369, 240);
        hairDue(1, -916911, MOST - 1, 383, 240);
    }

    private static void subRowsDue(int first, int second, long top, long bottom) {
        RasterCover r = new RasterCover(1, 2, 0);
        Shapes.box(r, 0, top, 256, bottom);
        Check.due("from " + top + " to " + bottom, r.cover(0, 0), first);
        Check.due("from " + top + " to " + bottom + ", the point below", r.cover(0, 1), second);
    }

    private static void subRows() {
        Check.terms("SUB-ROW j of the surface (16 in each row of points) has the line y = 16 j + 8.");
        subRowsDue(0, 0, -8, 8);
        subRowsDue(16, 0, -8, 9);
        subRowsDue(16, 0, 8, 9);
        subRowsDue(16, 0, 8, 24);
        subRowsDue(32, 0, 8, 25);
        subRowsDue(0, 0, 9, 24);
        subRowsDue(16, 0, 9, 25);
        subRowsDue(16, 0, 232, 248);
        subRowsDue(0, 0, 233, 248);
        subRowsDue(16, 0, 248, 264);
        subRowsDue(0, 0, 249, 264);
        subRowsDue(0, 16, 249, 265);
        subRowsDue(0, 16, 504, 512);
        subRowsDue(0, 0, 505, 512);
        subRowsDue(255, 0, 8, 249);
        subRowsDue(239, 0, 9, 249);
        subRowsDue(239, 0, 8, 248);
        for (int rows = 0; rows <= 16; rows++) {
            subRowsDue((256 * rows * 255 + 2048) / 4096, 0, 0, 16 * rows);
        }
    }

    private static void crosses() {
        Check.terms("if one of y0, y1 is at or above the line (not greater), the other one below (greater)");
        subRowsDue(16, 0, 7, 9);
        subRowsDue(0, 0, 7, 8);
        subRowsDue(16, 0, 8, 9);
        subRowsDue(0, 0, 8, 8);
        subRowsDue(0, 0, 9, 10);
        crossingDue(20, 20, 8, 100, 24);
        crossingDue(80, 0, 0, 90, 9);
        Check.due("edges that lie on the line", Shapes.coverOf(0, 8, 256, 8, 128, 8), 0);
        Check.due("two edges that meet on the line cross it once", Shapes.coverOf(0, 0, 20, 8, 0, 16, 29, 16, 29, 0), 1);
        Check.due("and just there", Shapes.coverOf(0, 0, 20, 8, 0, 16, 28, 16, 28, 0), 0);
        Check.due("once upwards too", Shapes.coverOf(29, 0, 29, 16, 0, 16, 20, 8, 0, 0), 1);
        Check.due("a tip from above ends on the line", Shapes.coverOf(0, 0, 256, 0, 128, 8), 0);
        Check.due("a tip from below begins on it without a unit", Shapes.coverOf(0, 16, 256, 16, 128, 8), 0);
        Check.due("a tip from below begins above it", Shapes.coverOf(0, 16, 256, 16, 128, 7), 2);
        Check.due("a tip from above ends below it", Shapes.coverOf(0, 0, 256, 0, 128, 9), 2);
    }

    private static void crossesFarAway() {
        Check.terms("at x0 + ((y - y0) (x1 - x0)) / (y1 - y0), (x0, y0) being its upper end");
        crossingDue(183, LEAST, LEAST, 200, 24);
        crossingDue(215, MOST, LEAST, 200, 24);
        crossingDue(91, 100, 240, LEAST, MOST);
        crossingDue(108, 100, 240, MOST, MOST);
        crossingDue(0, LEAST, LEAST, 16, 24);
        crossingDue(1, LEAST, LEAST, 17, 24);
    }

    private static void turns() {
        Check.terms("its turn is 1, if the path goes down there, else -1");
        long[] toTheRight = {0, 0, 256, 0, 256, 256, 0, 256};
        long[] toTheLeft = {0, 0, 0, 256, 256, 256, 256, 0};
        Check.due("a path to the right", Shapes.coverOf(toTheRight), 255);
        Check.due("a path to the left", Shapes.coverOf(toTheLeft), 255);
        RasterCover r = new RasterCover(1, 1, 0);
        Shapes.path(r, toTheRight);
        Shapes.path(r, toTheLeft);
        Check.due("one against the other", r.cover(0, 0), 0);
        Shapes.path(r, toTheLeft);
        Check.due("one more to the left", r.cover(0, 0), 255);
        Shapes.path(r, toTheLeft);
        Check.due("two more to the left", r.cover(0, 0), 255);
        Shapes.path(r, toTheRight);
        Shapes.path(r, toTheRight);
        Check.due("as many as before, against each other", r.cover(0, 0), 0);
    }

    /** Boxes in each other, each one point further in than the one before; a box back goes the other way about. */
    private static RasterCover nested(boolean firstBack, boolean secondBack, boolean thirdBack) {
        RasterCover r = new RasterCover(5, 1, 1);
        boolean[] back = {firstBack, secondBack, thirdBack};
        for (int i = 0; i < 3; i++) {
            long left = 256L * i;
            long right = 1280 - left;
            Shapes.box(r, back[i] ? right : left, 0, back[i] ? left : right, 256);
        }
        return r;
    }

    private static void insideDue(String what, RasterCover r, int rule, String want) {
        r.fill(rule, 0, 255);
        for (int x = 0; x < 5; x++) {
            Check.due(what + ", point " + x, r.point(x, 0, 0), want.charAt(x) == '#' ? 255 : 0);
        }
    }

    private static void insideByRule0() {
        Check.terms("between crossings where the sum of all turns so far is not 0 (rule 0)");
        insideDue("sums 1, 2, 3, 2, 1", nested(false, false, false), 0, "#####");
        insideDue("sums -1, -2, -3, -2, -1", nested(true, true, true), 0, "#####");
        insideDue("sums 1, 0, 1, 0, 1", nested(false, true, false), 0, "#.#.#");
        insideDue("sums 1, 0, -1, 0, 1", nested(false, true, true), 0, "#.#.#");
        insideDue("sums 1, 2, 1, 2, 1", nested(false, false, true), 0, "#####");
        insideDue("sums -1, 0, 1, 0, -1", nested(true, false, false), 0, "#.#.#");
        insideDue("sums -1, -2, -1, -2, -1", nested(true, true, false), 0, "#####");
        RasterCover r = new RasterCover(5, 1, 1);
        Shapes.box(r, 0, 0, 512, 256);
        Shapes.box(r, 512, 0, 1024, 256);
        insideDue("two that touch", r, 0, "####.");
        r = new RasterCover(5, 1, 1);
        Shapes.box(r, 0, 0, 512, 256);
        Shapes.box(r, 1024, 0, 512, 256);
        insideDue("two that touch, against each other", r, 0, "####.");
    }

    private static void insideByRule1() {
        Check.terms("or where an odd number of crossings was passed (rule 1)");
        insideDue("1, 2, 3, 4, 5 passed", nested(false, false, false), 1, "#.#.#");
        insideDue("the same to the left", nested(true, true, true), 1, "#.#.#");
        insideDue("whatever the turns", nested(false, true, true), 1, "#.#.#");
        RasterCover r = new RasterCover(5, 1, 1);
        Shapes.box(r, 0, 0, 512, 256);
        Shapes.box(r, 512, 0, 1024, 256);
        insideDue("two that touch", r, 1, "####.");
        r = new RasterCover(5, 1, 1);
        Shapes.box(r, 256, 0, 512, 256);
        Shapes.box(r, 256, 0, 512, 256);
        insideDue("twice the same", r, 1, ".....");
        Shapes.box(r, 256, 0, 512, 256);
        Shapes.box(r, 256, 0, 512, 256);
        Shapes.box(r, 256, 0, 512, 256);
        insideDue("three times the same", r, 1, ".#...");
    }

    private static void insideBesideTheSurface() {
        Check.terms("INSIDE, from the left: between crossings");
        Check.due("from the left of the surface", Shapes.coverOf(-900, 0, 128, 0, 128, 256, -900, 256), 128);
        Check.due("to the right of the surface", Shapes.coverOf(128, 0, 900, 0, 900, 256, 128, 256), 128);
        Check.due("up to its left side", Shapes.coverOf(-900, 0, 0, 0, 0, 256, -900, 256), 0);
        Check.due("a unit over its left side", Shapes.coverOf(-900, 0, 1, 0, 1, 256, -900, 256), 1);
        Check.due("from its right side on", Shapes.coverOf(256, 0, 900, 0, 900, 256, 256, 256), 0);
        Check.due("from a unit before", Shapes.coverOf(255, 0, 900, 0, 900, 256, 255, 256), 1);
        Check.due("all about the surface", Shapes.coverOf(-900, -900, 900, -900, 900, 900, -900, 900), 255);
        Check.due("from end to end", Shapes.coverOf(LEAST, LEAST, MOST, LEAST, MOST, MOST, LEAST, MOST), 255);
        Check.due("above the surface", Shapes.coverOf(0, -256, 256, -256, 256, 0, 0, 0), 0);
        Check.due("below the surface", Shapes.coverOf(0, 256, 256, 256, 256, 512, 0, 512), 0);
        RasterCover r = new RasterCover(1, 1, 0);
        Shapes.box(r, -900, 0, 900, 256);
        Shapes.box(r, -128, 0, -900, 256);
        Check.due("closed again before the surface begins", r.cover(0, 0), 255);
        Shapes.box(r, 900, 0, -100, 256);
        Check.due("all turns before the surface are counted", r.cover(0, 0), 0);
    }

    /** Each of a hundred edges crosses the first sub-row: 97 of them at 0, the others at 50, 100, and 150. */
    private static void asManyCrossingsAsCanBe() {
        Check.terms("INSIDE, from the left: between crossings");
        RasterCover r = new RasterCover(1, 1, 1);
        for (int rule = 0; rule <= 1; rule++) {
            r.move(100, 0);
            for (int i = 1; i <= 98; i++) {
                r.line(0, i % 2 * 16);
            }
            Check.due("the last point, rule " + rule, r.line(200, 16), 100);
            Check.due("two times fifty units", r.cover(0, 0), 6);
            r.fill(rule, 0, 255);
            Check.due("filled by rule " + rule, r.point(0, 0, 0), rule == 0 ? 6 : 12);
        }
    }

    private static void unitsOfAPoint() {
        Check.terms("In a point a sub-row is covered by as many units as are inside");
        RasterCover r = new RasterCover(3, 1, 0);
        Shapes.box(r, 247, 0, 521, 16);
        Check.due("nine units at the end of a point", r.cover(0, 0), 1);
        Check.due("a whole sub-row", r.cover(1, 0), 16);
        Check.due("nine units at the beginning of a point", r.cover(2, 0), 1);
        r.end();
        Shapes.box(r, 248, 0, 520, 16);
        Check.due("eight units at the end of a point", r.cover(0, 0), 0);
        Check.due("eight units at the beginning of a point", r.cover(2, 0), 0);
        r.end();
        Shapes.box(r, 300, 0, 304, 16);
        Shapes.box(r, 400, 0, 405, 16);
        Check.due("four and five units", r.cover(1, 0), 1);
        Shapes.box(r, 303, 0, 308, 16);
        Check.due("four more, one of them twice inside", r.cover(1, 0), 1);
        r.end();
        Shapes.box(r, 300, 0, 308, 16);
        Shapes.box(r, 307, 0, 308, 16);
        Check.due("eight, one of them twice inside", r.cover(1, 0), 0);
        r.end();
        Shapes.box(r, 300, 0, 301, 144);
        Check.due("a unit in each of nine sub-rows", r.cover(1, 0), 1);
        r.end();
        Shapes.box(r, 300, 0, 301, 128);
        Check.due("a unit in each of eight sub-rows", r.cover(1, 0), 0);
    }

    private static void coverIsRounded() {
        Check.terms("COVER of a point is ((the sum of its sixteen sub-rows) * 255 + 2048) / 4096.");
        int[][] dues = {
            {0, 0}, {1, 0}, {8, 0}, {9, 1}, {24, 1}, {25, 2}, {40, 2}, {41, 3}, {256, 16}, {2031, 126}, {2032, 127},
            {2047, 127}, {2048, 128}, {2049, 128}, {2305, 143}, {2306, 144}, {4071, 253}, {4072, 254},
            {4087, 254}, {4088, 255}, {4095, 255}, {4096, 255},
        };
        for (int[] due : dues) {
            RasterCover r = new RasterCover(1, 1, 0);
            Shapes.units(r, due[0]);
            Check.due(due[0] + " units", r.cover(0, 0), due[1]);
        }
    }

    private static void clipAtFirst() {
        Check.terms("THE CLIP is a byte for each point, at first 255.");
        RasterCover r = new RasterCover(48, 48, 1);
        Shapes.all(r);
        Check.due("each point is open", r.clip(0), 48 * 48);
        Check.due("and wholly so", Shapes.fillAll(r, 0, 255), 48 * 48);
        Check.due("the first point", r.point(0, 0, 0), 255);
        Check.due("the last point", r.point(47, 47, 0), 255);
        RasterCover two = new RasterCover(2, 1, 1);
        Shapes.box(two, 0, 0, 384, 256);
        two.clip(0);
        Shapes.fillAll(two, 0, 255);
        Check.due("a byte for the first point", two.point(0, 0, 0), 255);
        Check.due("another one for the second", two.point(1, 0, 0), 128);
    }

    private static void mul() {
        Check.terms("MUL(a, b) is (a b + 127) / 255.");
        int[][] dues = {
            {0, 0, 0}, {0, 255, 0}, {1, 1, 0}, {1, 126, 0}, {1, 127, 0}, {1, 128, 1}, {1, 254, 1}, {1, 255, 1}, {2, 63, 0},
            {2, 64, 1}, {2, 191, 1}, {2, 192, 2}, {3, 127, 1}, {3, 128, 2}, {16, 8, 1}, {128, 128, 64}, {254, 254, 253},
            {254, 255, 254}, {255, 255, 255},
        };
        for (int[] due : dues) {
            mulDue(due[0], due[1], due[2]);
            mulDue(due[1], due[0], due[2]);
        }
    }

    /** A clip by a clip can be seen on the second plane, filled all over: it takes just the clip's byte. */
    private static void mulDue(int clip, int cover, int want) {
        RasterCover r = new RasterCover(1, 1, 2);
        Shapes.covering(r, clip);
        Check.due("clip " + clip + " is open", r.clip(0), clip > 0 ? 1 : 0);
        Shapes.covering(r, cover);
        Check.due("cover " + cover + " in clip " + clip + " counts", r.fill(0, 0, 255), want > 0 ? 1 : 0);
        Check.due("cover " + cover + " in clip " + clip, r.point(0, 0, 0), want);
        Shapes.covering(r, cover);
        Check.due("clip " + clip + " by cover " + cover + " is open", r.clip(0), want > 0 ? 1 : 0);
        Shapes.fillAll(r, 1, 255);
        Check.due("clip " + clip + " by cover " + cover, r.point(0, 0, 1), want);
    }
}
