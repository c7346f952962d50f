/** Promise 6. */
public final class ClipTest {
    public static void main(String[] args) {
        eachPointsClip();
        byThePathsCover();
        pathIsGone();
        howManyAbove0();
        whateverTheBand();
        byBothRules();
        anotherRule();
        Check.finish();
    }

    private static void clipsDue(String what, RasterCover r, int... want) {
        Shapes.fillAll(r, 0, 0);
        Shapes.fillAll(r, 1, 255);
        for (int x = 0; x < want.length; x++) {
            Check.due(what + ", point " + x, r.point(x, 0, 1), want[x]);
        }
    }

    private static void eachPointsClip() {
        Check.promise(6, "THE CLIP at each point becomes MUL(itself, the path's cover)");
        RasterCover r = new RasterCover(4, 1, 2);
        Shapes.box(r, 0, 0, 384, 256);
        r.clip(0);
        clipsDue("once", r, 255, 128, 0, 0);
        Shapes.box(r, 256, 0, 1024, 256);
        r.clip(0);
        Check.due("a point that was closed stays so", Shapes.fillBox(r, 0, 9, 512, 0, 1024, 256), 0);
        Check.due("one that is left out is closed", Shapes.fillBox(r, 0, 9, 0, 0, 256, 256), 0);
        Check.due("one is open", Shapes.fillBox(r, 0, 9, 256, 0, 512, 256), 1);
    }

    private static void byThePathsCover() {
        Check.promise(6, "MUL(itself, the path's cover)");
        RasterCover r = new RasterCover(2, 1, 2);
        Shapes.box(r, 0, 0, 384, 256);
        r.clip(0);
        Shapes.box(r, 128, 0, 512, 128);
        r.clip(0);
        clipsDue("a half of a whole cut to a quarter, a half to a half", r, 64, 64);
        RasterCover least = new RasterCover(1, 1, 2);
        Shapes.covering(least, 1);
        Check.due("a clip of 1 is open", least.clip(0), 1);
        Shapes.covering(least, 128);
        Check.due("by 128 it stays 1", least.clip(0), 1);
        Shapes.covering(least, 127);
        Check.due("by 127 it is closed", least.clip(0), 0);
        Shapes.all(least);
        Check.due("and stays closed", least.clip(0), 0);
    }

    private static void pathIsGone() {
        Check.promise(6, "and the path is gone");
        for (int rule = 0; rule <= 1; rule++) {
            RasterCover r = new RasterCover(1, 1, 1);
            Shapes.all(r);
            r.clip(rule);
            Check.due("no cover is left", r.cover(0, 0), 0);
            Check.throwing("no point is left", Check.NO_POINT, () -> r.line(0, 0));
            Check.due("the next point is the first", r.move(0, 0), 1);
        }
        RasterCover none = new RasterCover(0, 0, 0);
        none.move(0, 0);
        none.clip(0);
        Check.throwing("without a surface too", Check.NO_POINT, () -> none.line(0, 0));
    }

    private static void howManyAbove0() {
        Check.promise(6, "at how many points the clip is above 0");
        RasterCover r = new RasterCover(3, 2, 1);
        Shapes.all(r);
        Check.due("all", r.clip(0), 6);
        Shapes.box(r, 0, 0, 768, 256);
        Check.due("a row", r.clip(1), 3);
        Shapes.box(r, 8, 0, 16, 16);
        Shapes.box(r, 256, 0, 265, 16);
        Check.due("a cover of 0 closes, one of 1 does not", r.clip(0), 1);
        Check.due("a clip without a path closes all", r.clip(0), 0);
        Shapes.all(r);
        Check.due("all of what is closed", r.clip(0), 0);
        Check.due("nothing is filled there", Shapes.fillAll(r, 0, 9), 0);
    }

    private static void whateverTheBand() {
        Check.promise(6, "THE CLIP at each point");
        RasterCover r = new RasterCover(3, 3, 1);
        r.band(1, 2);
        Shapes.box(r, 0, 0, 512, 768);
        Check.due("points in and beside the band", r.clip(0), 6);
        r.band(0, 0);
        Shapes.all(r);
        Check.due("without a band", r.clip(1), 6);
        r.band(0, 3);
        Check.due("they are open", Shapes.fillAll(r, 0, 5), 6);
    }

    private static void byBothRules() {
        Check.promise(6, "at how many points the clip is above 0");
        RasterCover r = new RasterCover(3, 3, 1);
        Shapes.box(r, 0, 0, 768, 768);
        Shapes.box(r, 256, 256, 512, 512);
        Check.due("two boxes by rule 0", r.clip(0), 9);
        Shapes.box(r, 0, 0, 768, 768);
        Shapes.box(r, 256, 256, 512, 512);
        Check.due("two boxes by rule 1", r.clip(1), 8);
        Check.due("the middle is closed", Shapes.fillBox(r, 0, 1, 256, 256, 512, 512), 0);
    }

    private static void anotherRule() {
        Check.promise(6, "IllegalArgumentException for another rule.");
        RasterCover r = new RasterCover(2, 1, 1);
        for (int rule : new int[] {Integer.MIN_VALUE, -1, 2, 3, 256, Integer.MAX_VALUE}) {
            Check.throwing("rule " + rule, Check.BAD_RULE, () -> r.clip(rule));
        }
        Check.throwing("rule 2 without a surface", Check.BAD_RULE, () -> new RasterCover(0, 0, 0).clip(2));
        Check.due("all points are open still", Shapes.fillAll(r, 0, 9), 2);
        Shapes.all(r);
        Check.due("rule 0", r.clip(0), 2);
        Shapes.all(r);
        Check.due("rule 1", r.clip(1), 2);
    }
}
