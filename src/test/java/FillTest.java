/** Promise 5. */
public final class FillTest {
    public static void main(String[] args) {
        pathIsGone();
        atEachPointOfTheBand();
        whereCIsAbove0();
        clipTakesPart();
        thePlanesByte();
        lowestEightBits();
        otherPlanes();
        overPlanes();
        byBothRules();
        howManyPoints();
        anotherRule();
        anotherPlane();
        Check.finish();
    }

    private static void pathIsGone() {
        Check.promise(5, "The path is FILLED by a rule (0, 1) on a plane, and is gone");
        for (int rule = 0; rule <= 1; rule++) {
            RasterCover r = new RasterCover(2, 2, 1);
            Shapes.all(r);
            Check.due("rule " + rule, r.fill(rule, 0, 9), 4);
            Check.due("no cover is left", r.cover(0, 0), 0);
            Check.due("nothing is left to fill", r.fill(rule, 0, 8), 0);
            Check.due("the bytes stay", r.point(0, 0, 0), 9);
            Check.throwing("no point is left", Check.NO_POINT, () -> r.line(0, 0));
            Shapes.fillBox(r, 0, 7, 900, 900, 990, 990);
            Check.throwing("when it was beside the surface", Check.NO_POINT, () -> r.line(0, 0));
            r.band(0, 0);
            Shapes.fillAll(r, 0, 7);
            Check.due("when the band is empty", r.move(0, 0), 1);
        }
    }

    private static void atEachPointOfTheBand() {
        Check.promise(5, "at each point of the band where c is above 0");
        RasterCover r = new RasterCover(3, 5, 1);
        r.band(1, 4);
        Check.due("points", Shapes.fillAll(r, 0, 9), 9);
        for (int i = 0; i < 15; i++) {
            int row = i / 3;
            Check.due("point " + i % 3 + ", " + row, r.point(i % 3, row, 0), row >= 1 && row < 4 ? 9 : 0);
        }
    }

    private static int fillUnits(RasterCover r, int units, int v) {
        Shapes.units(r, units);
        return r.fill(0, 0, v);
    }

    private static void whereCIsAbove0() {
        Check.promise(5, "with c = MUL(cover, clip), at each point of the band where c is above 0");
        RasterCover r = new RasterCover(1, 1, 2);
        Shapes.fillAll(r, 1, 255);
        Check.due("no unit", fillUnits(r, 0, 255), 0);
        Check.due("eight units, a cover of 0", fillUnits(r, 8, 255), 0);
        Check.due("the plane stays", r.point(0, 0, 0), 0);
        Check.due("the other one is not knocked out", r.point(0, 0, 1), 255);
        Check.due("nine units, a cover of 1", fillUnits(r, 9, 255), 1);
        Check.due("the plane takes 1", r.point(0, 0, 0), 1);
        Check.due("the other one loses 1", r.point(0, 0, 1), 254);
        Check.due("all units", fillUnits(r, 4096, 255), 1);
        Check.due("the plane takes all", r.point(0, 0, 0), 255);
        Check.due("the other one loses all", r.point(0, 0, 1), 0);
    }

    private static void clipTakesPart() {
        Check.promise(5, "with c = MUL(cover, clip)");
        RasterCover r = new RasterCover(1, 1, 1);
        Shapes.covering(r, 1);
        r.clip(0);
        Shapes.covering(r, 127);
        Check.due("a cover of 127 in a clip of 1", r.fill(0, 0, 255), 0);
        Check.due("nothing is filled", r.point(0, 0, 0), 0);
        Shapes.covering(r, 128);
        Check.due("a cover of 128 in a clip of 1", r.fill(0, 0, 255), 1);
        Check.due("the least is filled", r.point(0, 0, 0), 1);
        Shapes.fillAll(r, 0, 255);
        Check.due("a whole cover in a clip of 1", r.point(0, 0, 0), 2);
    }

    /** The byte that a fill of v with just c makes of a byte. */
    private static int filled(int before, int v, int c) {
        RasterCover r = new RasterCover(1, 1, 1);
        Shapes.fillAll(r, 0, before);
        Shapes.covering(r, c);
        r.fill(0, 0, v);
        return r.point(0, 0, 0);
    }

    private static void thePlanesByte() {
        Check.promise(5, "the plane's byte becomes (itself (255 - c) + v c + 127) / 255");
        int[][] dues = {
            {0, 0, 255, 0}, {0, 255, 255, 255}, {255, 0, 255, 0}, {255, 255, 255, 255}, {200, 100, 255, 100},
            {200, 100, 0, 200},
            {0, 127, 1, 0}, {0, 128, 1, 1}, {0, 255, 1, 1}, {127, 0, 1, 127}, {128, 0, 1, 127}, {255, 0, 1, 254},
            {255, 255, 1, 255},
            {0, 126, 254, 126}, {0, 127, 254, 127}, {0, 128, 254, 127}, {127, 0, 254, 0}, {128, 0, 254, 1}, {255, 0, 254, 1},
            {0, 1, 127, 0}, {0, 1, 128, 1}, {1, 0, 127, 1}, {1, 0, 128, 0}, {200, 100, 128, 150}, {100, 200, 128, 150},
            {255, 254, 127, 255}, {255, 254, 128, 254}, {254, 255, 128, 255}, {254, 255, 127, 254},
        };
        for (int[] due : dues) {
            Check.due(due[0] + " with " + due[1] + " by " + due[2], filled(due[0], due[1], due[2]), due[3]);
        }
    }

    private static void lowestEightBits() {
        Check.promise(5, "v's lowest eight bits");
        int[][] dues = {
            {0, 0}, {1, 1}, {254, 254}, {255, 255}, {256, 0}, {257, 1}, {511, 255}, {512, 0}, {-1, 255}, {-2, 254},
            {-255, 1}, {-256, 0}, {-257, 255}, {65535, 255}, {65536, 0}, {1 << 31, 0}, {Integer.MAX_VALUE, 255}, {0x12345680, 128},
        };
        for (int[] due : dues) {
            RasterCover r = new RasterCover(1, 1, 1);
            Shapes.fillAll(r, 0, 99);
            Shapes.fillAll(r, 0, due[0]);
            Check.due("v " + due[0], r.point(0, 0, 0), due[1]);
            Check.due("half of v " + due[0], filled(0, due[0], 128), (due[1] * 128 + 127) / 255);
        }
    }

    private static void otherPlanes() {
        Check.promise(5, "of each other plane that is not OVER it becomes (itself (255 - c) + 127) / 255");
        int[][] dues = {
            {0, 255, 0}, {255, 255, 0}, {255, 0, 255}, {127, 1, 127}, {128, 1, 127}, {255, 1, 254}, {127, 254, 0},
            {128, 254, 1}, {1, 127, 1}, {1, 128, 0}, {200, 128, 100}, {201, 128, 100}, {199, 128, 99},
        };
        for (int[] due : dues) {
            RasterCover r = new RasterCover(1, 1, 4);
            for (int plane = 0; plane < 4; plane++) {
                Shapes.fillAll(r, plane, due[0]);
                r.over(plane, true);
            }
            r.over(0, false);
            r.over(3, false);
            Shapes.covering(r, due[1]);
            r.fill(0, 2, 0);
            Check.due(due[0] + " by " + due[1], r.point(0, 0, 0), due[2]);
            Check.due(due[0] + " by " + due[1] + ", the last plane", r.point(0, 0, 3), due[2]);
            Check.due(due[0] + " by " + due[1] + ", of a plane that is over", r.point(0, 0, 1), due[0]);
            Check.due(due[0] + " by " + due[1] + ", of the plane itself, over as it is", r.point(0, 0, 2), due[2]);
        }
    }

    private static void overPlanes() {
        Check.promise(5, "of each other plane that is not OVER");
        RasterCover r = new RasterCover(1, 1, 3);
        Shapes.fillAll(r, 0, 100);
        r.over(0, true);
        Shapes.fillAll(r, 1, 60);
        Check.due("a plane that is over stays", r.point(0, 0, 0), 100);
        Shapes.fillAll(r, 2, 40);
        Check.due("it stays again", r.point(0, 0, 0), 100);
        Check.due("one that is not is knocked out", r.point(0, 0, 1), 0);
        Shapes.fillAll(r, 0, 30);
        Check.due("a plane that is over is filled itself", r.point(0, 0, 0), 30);
        Check.due("and knocks out the others", r.point(0, 0, 2), 0);
        r.over(0, false);
        Shapes.fillBox(r, 1, 60, 0, 0, 128, 256);
        Check.due("over no more, it is half knocked out", r.point(0, 0, 0), 15);
    }

    private static void byBothRules() {
        Check.promise(5, "The path is FILLED by a rule (0, 1) on a plane");
        RasterCover r = new RasterCover(3, 3, 1);
        Shapes.box(r, 0, 0, 768, 768);
        Shapes.box(r, 256, 256, 512, 512);
        Check.due("two boxes by rule 0", r.fill(0, 0, 1), 9);
        Check.due("their middle", r.point(1, 1, 0), 1);
        Shapes.box(r, 0, 0, 768, 768);
        Shapes.box(r, 256, 256, 512, 512);
        Check.due("two boxes by rule 1", r.fill(1, 0, 2), 8);
        Check.due("their middle is outside", r.point(1, 1, 0), 1);
        Check.due("what is about it is inside", r.point(0, 1, 0), 2);
    }

    private static void howManyPoints() {
        Check.promise(5, "How many such points there are.");
        RasterCover r = new RasterCover(4, 3, 2);
        Check.due("without a path", r.fill(0, 0, 9), 0);
        Check.due("a single point", Shapes.fillBox(r, 0, 9, 256, 256, 512, 512), 1);
        Check.due("parts of four", Shapes.fillBox(r, 0, 9, 128, 128, 384, 384), 4);
        Check.due("all", Shapes.fillAll(r, 1, 0), 12);
        Check.due("that nothing changes does not matter", Shapes.fillAll(r, 1, 0), 12);
        Check.due("beside the surface", Shapes.fillBox(r, 0, 9, 1024, 0, 1280, 768), 0);
        r.band(1, 2);
        Check.due("in the band alone", Shapes.fillAll(r, 0, 9), 4);
        r.band(2, 2);
        Check.due("no row, no point", Shapes.fillAll(r, 0, 9), 0);
    }

    private static void anotherRule() {
        Check.promise(5, "IllegalArgumentException for another rule; ArrayIndexOutOfBoundsException (plane).");
        RasterCover r = new RasterCover(1, 1, 2);
        RasterCover bare = new RasterCover(1, 1, 0);
        for (int rule : new int[] {Integer.MIN_VALUE, -1, 2, 3, 256, Integer.MAX_VALUE}) {
            Check.throwing("rule " + rule, Check.BAD_RULE, () -> r.fill(rule, 0, 1));
            for (int plane : new int[] {Integer.MIN_VALUE, -1, 2, 4, Integer.MAX_VALUE}) {
                Check.throwing("rule " + rule + " goes before plane " + plane, Check.BAD_RULE, () -> r.fill(rule, plane, 1));
            }
            Check.throwing("rule " + rule + " without planes", Check.BAD_RULE, () -> bare.fill(rule, 0, 1));
        }
        Check.due("rule 0", Shapes.fillAll(r, 0, 1), 1);
        Shapes.all(r);
        Check.due("rule 1", r.fill(1, 1, 1), 1);
    }

    private static void anotherPlane() {
        Check.promise(5, "ArrayIndexOutOfBoundsException (plane).");
        for (int planes = 0; planes <= 4; planes++) {
            RasterCover r = new RasterCover(1, 1, planes);
            String of = "of " + planes + ", plane";
            Check.noSuch(of, planes, plane -> r.fill(0, plane, 1));
            Check.noSuch(of + ", by rule 1,", planes, plane -> r.fill(1, plane, 1));
            if (planes > 0) {
                Check.due(of + " 0", Shapes.fillAll(r, 0, 1), 1);
                Check.due(of + " that is the last", Shapes.fillAll(r, planes - 1, 1), 1);
            }
        }
    }
}
