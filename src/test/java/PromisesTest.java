/** Each promise of the document by hand: ordinary calls, the edges that it names, and wrong arguments. */
public final class PromisesTest {
    private static final Class<ArrayIndexOutOfBoundsException> NO_SUCH = ArrayIndexOutOfBoundsException.class;
    private static final Class<IllegalArgumentException> BAD_RULE = IllegalArgumentException.class;
    private static final Class<IllegalStateException> NO_POINT = IllegalStateException.class;
    private static final Class<UnsupportedOperationException> NO_ROOM = UnsupportedOperationException.class;
    private static final int[] WRONG = {-1, Integer.MIN_VALUE, Integer.MAX_VALUE, 48};

    public static void main(String[] args) {
        newObject();
        move();
        line();
        crossings();
        hair();
        hairIsCutOnce();
        fill();
        fillOfPlanes();
        fillByRules();
        fillThrows();
        clip();
        end();
        point();
        cover();
        band();
        same();
        packed();
        packedRows();
        over();
        Check.finish();
    }

    private static void box(RasterCover r, long left, long top, long right, long bottom) {
        r.move(left, top);
        r.line(right, top);
        r.line(right, bottom);
        r.line(left, bottom);
    }

    private static int fillBox(RasterCover r, int plane, int v, long left, long top, long right, long bottom) {
        box(r, left, top, right, bottom);
        return r.fill(0, plane, v);
    }

    /** The cover of point (0, 0) by one path, from its x, y, x, y .. */
    private static int coverOf(long... places) {
        RasterCover r = new RasterCover(1, 1, 0);
        r.move(places[0], places[1]);
        for (int i = 2; i < places.length; i += 2) {
            r.line(places[i], places[i + 1]);
        }
        return r.cover(0, 0);
    }

    private static void newObject() {
        RasterCover r = new RasterCover(49, Integer.MAX_VALUE, 5);
        Check.due("1: the last byte at first", r.point(47, 47, 3), 0);
        Check.throwing("1: width is cut", NO_SUCH, () -> r.point(48, 0, 0));
        Check.throwing("1: height is cut", NO_SUCH, () -> r.point(0, 48, 0));
        Check.throwing("1: planes are cut", NO_SUCH, () -> r.point(0, 0, 4));
        Check.throwing("1: no path", NO_POINT, () -> r.line(0, 0));
        Check.due("1: no plane is over", r.over(0, false) + r.over(1, false) + r.over(2, false) + r.over(3, false), 0);
        Check.due("1: all rows are in the band", fillBox(r, 0, 1, 0, 0, 99999, 99999), 48 * 48);
        RasterCover flat = new RasterCover(-1, 3, 1);
        Check.throwing("1: no point", NO_SUCH, () -> flat.point(0, 0, 0));
        Check.due("1: rows without points", flat.band(0, 9), 3);
        Check.due("1: a fill of no points", fillBox(flat, 0, 1, 0, 0, 256, 256), 0);
        RasterCover none = new RasterCover(Integer.MIN_VALUE, Integer.MIN_VALUE, Integer.MIN_VALUE);
        Check.throwing("1: no plane", NO_SUCH, () -> none.fill(0, 0, 0));
        Check.due("1: no rows", none.band(0, 9), 0);
    }

    private static void move() {
        RasterCover r = new RasterCover(2, 1, 1);
        box(r, 0, 0, 128, 256);
        Check.due("2: the fifth point", r.move(256, 0), 5);
        r.line(384, 0);
        r.line(384, 256);
        r.line(256, 256);
        Check.due("2: the first subpath", r.cover(0, 0), 128);
        Check.due("2: the second subpath", r.cover(1, 0), 128);
        for (int i = 9; i <= 100; i++) {
            Check.due("2: points", r.move(i, i), i);
        }
        Check.throwing("2: the 101st point", NO_ROOM, () -> r.move(0, 0));
        Check.due("2: unchanged", r.cover(0, 0), 128);
        Check.due("2: places are cut", coverOf(0, 0, 1L << 40, 1L << 21, 0, Long.MAX_VALUE), 128);
        Check.due("2: places are cut below", coverOf(Long.MIN_VALUE, Long.MIN_VALUE, 256, 256, -1048576, 256), 128);
        Check.due("2: at 1048576, not before", coverOf(1L << 40, 7, -1048558, 9, -1048558, 7), 1);
        Check.due("2: at 1048576, not behind", coverOf(1L << 40, 7, -1048559, 9, -1048559, 7), 0);
        Check.due("2: at -1048576, not before", coverOf(-1L << 40, 6, 524658, 9, 255, 9, 255, 6), 1);
        Check.due("2: at -1048576, not behind", coverOf(-1L << 40, 6, 524660, 9, 256, 9, 256, 6), 0);
        Check.due("2: from end to end", coverOf(Long.MIN_VALUE, Long.MIN_VALUE, Long.MAX_VALUE, Long.MIN_VALUE,
                Long.MAX_VALUE, Long.MAX_VALUE, Long.MIN_VALUE, Long.MAX_VALUE), 255);
    }

    private static void line() {
        RasterCover r = new RasterCover(1, 1, 1);
        Check.throwing("3: no point at first", NO_POINT, () -> r.line(1, 1));
        r.move(0, 0);
        for (int i = 2; i <= 100; i++) {
            Check.due("3: points", r.line(i % 2 * 256, 256), i);
        }
        Check.throwing("3: the 101st point", NO_ROOM, () -> r.line(0, 0));
        r.fill(0, 0, 1);
        Check.throwing("3: no point after a fill", NO_POINT, () -> r.line(1, 1));
        r.move(0, 0);
        r.clip(0);
        Check.throwing("3: no point after a clip", NO_POINT, () -> r.line(1, 1));
        r.move(0, 0);
        r.end();
        Check.throwing("3: no point after the end", NO_POINT, () -> r.line(1, 1));
        r.hair(0, 0, 256, 0);
        Check.due("3: a line from a hair's last point", r.line(0, 256), 5);
        Check.due("3: it is closed from there", r.cover(0, 0), 128);
    }

    private static void crossings() {
        Check.due("5: an edge that ends on the line is above it", coverOf(0, 0, 256, 0, 256, 8, 0, 8), 0);
        Check.due("5: an edge that begins on the line goes below", coverOf(0, 8, 256, 8, 256, 9, 0, 9), 16);
        Check.due("5: eight units", coverOf(0, 0, 8, 0, 8, 16, 0, 16), 0);
        Check.due("5: nine units", coverOf(0, 0, 9, 0, 9, 16, 0, 16), 1);
        Check.due("5: downward quotients", coverOf(10, 0, 7, 16, 17, 16, 17, 0), 1);
        Check.due("5: the same from below", coverOf(7, 16, 10, 0, 17, 0, 17, 16), 1);
        Check.due("5: left of the surface", coverOf(-900, -900, 9, -900, 9, 16, -900, 16), 1);
        Check.due("5: beside the surface", coverOf(-900, 0, -1, 0, -1, 256, -900, 256), 0);
        Check.due("5: right of the surface", coverOf(256, 0, 900, 0, 900, 256, 256, 256), 0);
        Check.due("5: one point", coverOf(1, 1), 0);
        Check.due("5: there and back", coverOf(0, 0, 256, 256), 0);
        Check.due("5: all but one unit", coverOf(0, 0, 256, 0, 256, 256, 1, 256, 1, 240, 0, 240), 255);
    }

    private static void hair() {
        RasterCover r = new RasterCover(4, 4, 1);
        Check.due("4: four points", r.hair(0, 512, 1024, 512), 4);
        Check.due("4: half a point thick above", r.cover(2, 1), 128);
        Check.due("4: half a point thick below", r.cover(2, 2), 128);
        Check.due("4: no further", r.cover(2, 0) + r.cover(2, 3), 0);
        r.end();
        r.hair(512, 1024, 512, 0);
        Check.due("4: upright, left", r.cover(1, 2), 128);
        Check.due("4: upright, right", r.cover(2, 2), 128);
        Check.due("4: upright, no further", r.cover(0, 2) + r.cover(3, 2), 0);
        r.end();
        r.hair(384, 384, 384, 384);
        Check.due("4: a dot", r.cover(1, 1), 255);
        Check.due("4: nothing beside a dot", r.cover(0, 1) + r.cover(2, 1) + r.cover(1, 0) + r.cover(1, 2), 0);
        r.end();
        r.hair(0, 1024, 1024, 0);
        Check.due("4: as far across as up goes across", r.cover(0, 3) - r.cover(3, 0), 0);
        Check.due("4: with upright ends", r.cover(0, 3), 191);
        r.end();
        r.hair(256, 256, 768, 768);
        Check.due("4: that is not upright", r.cover(0, 1), 0);
        Check.due("4: but upwards thick", r.cover(1, 0), 32);
        for (int i = 8; i <= 96; i += 4) {
            r.hair(0, 0, i, 0);
        }
        Check.due("4: a hair with the last four", r.hair(0, 0, 0, 0), 100);
        Check.throwing("4: no room", NO_ROOM, () -> r.hair(0, 0, 0, 0));
        r.end();
        r.move(0, 0);
        for (int i = 5; i <= 97; i += 4) {
            r.hair(0, 0, i, 0);
        }
        Check.throwing("4: no room for four", NO_ROOM, () -> r.hair(0, 0, 0, 0));
        Check.due("4: but for one", r.move(0, 0), 98);
    }

    private static void hairIsCutOnce() {
        RasterCover r = new RasterCover(48, 48, 1);
        r.hair(0, 0, Long.MAX_VALUE, 1L << 40);
        Check.due("4: its places are cut, its four points are not", r.cover(46, 47), 32);
        r.end();
        r.hair(Long.MAX_VALUE, 128, 1048576, 128);
        Check.due("4: both ends are one when they are cut", r.cover(47, 0), 0);
        r.end();
        r.hair(0, Long.MIN_VALUE, 1L << 50, Long.MAX_VALUE);
        Check.due("4: further up when it is cut", r.cover(0, 0), 0);
    }

    private static void fill() {
        RasterCover r = new RasterCover(3, 3, 1);
        Check.due("5: a fill without a path", r.fill(0, 0, 9), 0);
        Check.due("5: points", fillBox(r, 0, 200, 128, 128, 512, 512), 4);
        Check.due("5: a quarter", r.point(0, 0, 0), 50);
        Check.due("5: a half", r.point(1, 0, 0), 100);
        Check.due("5: a whole", r.point(1, 1, 0), 200);
        Check.due("5: nothing", r.point(2, 2, 0), 0);
        Check.due("5: the path is gone", r.fill(0, 0, 9), 0);
        fillBox(r, 0, 256 * 7 + 3, 0, 0, 768, 768);
        Check.due("5: the lowest eight bits", r.point(2, 2, 0), 3);
        fillBox(r, 0, -1, 0, 0, 768, 768);
        Check.due("5: the lowest eight bits of -1", r.point(2, 2, 0), 255);
        fillBox(r, 0, 10, 0, 0, 128, 256);
        Check.due("5: half over 255", r.point(0, 0, 0), (255 * 127 + 10 * 128 + 127) / 255);
        Check.due("5: too little to count", fillBox(r, 0, 10, 0, 0, 8, 16), 0);
        Check.due("5: the least that counts", fillBox(r, 0, 10, 0, 0, 9, 16), 1);
    }

    private static void fillOfPlanes() {
        RasterCover r = new RasterCover(1, 1, 3);
        fillBox(r, 0, 100, 0, 0, 256, 256);
        r.over(1, true);
        fillBox(r, 1, 60, 0, 0, 256, 256);
        Check.due("5: the first plane is knocked out", r.point(0, 0, 0), 0);
        fillBox(r, 2, 40, 0, 0, 128, 256);
        Check.due("5: a plane that is over stays", r.point(0, 0, 1), 60);
        Check.due("5: the plane itself", r.point(0, 0, 2), (40 * 128 + 127) / 255);
        r.over(1, false);
        fillBox(r, 0, 40, 0, 0, 128, 256);
        Check.due("5: half knocked out", r.point(0, 0, 1), (60 * 127 + 127) / 255);
        fillBox(r, 0, 40, 0, 0, 0, 256);
        Check.due("5: nothing is knocked out where nothing is filled", r.point(0, 0, 1), 30);
    }

    private static void fillByRules() {
        RasterCover r = new RasterCover(3, 3, 1);
        box(r, 0, 0, 768, 768);
        box(r, 256, 256, 512, 512);
        Check.due("5: two turns by rule 0", r.fill(0, 0, 1), 9);
        box(r, 0, 0, 768, 768);
        box(r, 256, 256, 512, 512);
        Check.due("5: two turns by rule 1", r.fill(1, 0, 2), 8);
        box(r, 0, 0, 768, 768);
        box(r, 512, 256, 256, 512);
        Check.due("5: turns against each other by rule 0", r.fill(0, 0, 3), 8);
        box(r, 512, 256, 256, 512);
        Check.due("5: a turn to the left", r.fill(0, 0, 4), 1);
    }

    private static void fillThrows() {
        RasterCover r = new RasterCover(1, 1, 2);
        box(r, 0, 0, 256, 256);
        Check.throwing("5: rule -1", BAD_RULE, () -> r.fill(-1, 0, 1));
        Check.throwing("5: rule 2 goes before the plane", BAD_RULE, () -> r.fill(2, 2, 1));
        Check.throwing("5: plane 2", NO_SUCH, () -> r.fill(1, 2, 1));
        Check.throwing("5: plane -1", NO_SUCH, () -> r.fill(1, -1, 1));
        Check.due("5: the path is still there", r.cover(0, 0), 255);
        Check.due("5: none of them is a fill", r.end(), 0);
    }

    private static void clip() {
        RasterCover r = new RasterCover(4, 1, 1);
        box(r, 0, 0, 384, 256);
        Check.due("6: open points", r.clip(0), 2);
        Check.due("6: the path is gone", r.cover(0, 0), 0);
        Check.due("6: filled inside the clip", fillBox(r, 0, 255, 0, 0, 1024, 256), 2);
        Check.due("6: a whole point", r.point(0, 0, 0), 255);
        Check.due("6: a half point", r.point(1, 0, 0), 128);
        box(r, 256, 0, 384, 256);
        Check.due("6: a clip of the clip", r.clip(1), 1);
        fillBox(r, 0, 0, 256, 0, 512, 256);
        Check.due("6: a half of a half", r.point(1, 0, 0), (128 * (255 - 64) + 127) / 255);
        box(r, 0, 0, 1024, 256);
        Check.throwing("6: rule 2", BAD_RULE, () -> r.clip(2));
        Check.throwing("6: rule -1", BAD_RULE, () -> r.clip(-1));
        Check.due("6: the path is still there", r.clip(0), 1);
        Check.due("6: a clip by nothing", r.clip(0), 0);
        Check.due("6: closes all", fillBox(r, 0, 9, 0, 0, 1024, 256), 0);
        clipByRules();
    }

    private static void clipByRules() {
        RasterCover r = new RasterCover(3, 3, 1);
        r.band(1, 2);
        box(r, 0, 0, 768, 768);
        box(r, 256, 256, 512, 512);
        Check.due("6: rule 0, whatever the band", r.clip(0), 9);
        box(r, 0, 0, 768, 768);
        box(r, 256, 256, 512, 512);
        Check.due("6: rule 1", r.clip(1), 8);
    }

    private static void end() {
        RasterCover r = new RasterCover(2, 2, 1);
        r.over(0, true);
        r.band(1, 2);
        fillBox(r, 0, 5, 0, 0, 512, 512);
        r.fill(0, 0, 1);
        r.clip(0);
        r.move(0, 0);
        Check.due("7: fills", r.end(), 2);
        Check.due("7: fills since then", r.end(), 0);
        Check.throwing("7: the path is gone", NO_POINT, () -> r.line(0, 0));
        Check.due("7: the clip is open, the band stays", fillBox(r, 0, 7, 0, 0, 512, 512), 2);
        Check.due("7: bytes stay", r.point(0, 1, 0), 7);
        Check.due("7: over stays", r.over(0, true), 1);
        Check.due("7: one more fill", r.end(), 1);
    }

    private static void point() {
        RasterCover r = new RasterCover(3, 2, 2);
        fillBox(r, 1, 250, 512, 256, 768, 512);
        Check.due("8: the last byte", r.point(2, 1, 1), 250);
        Check.due("8: its plane alone", r.point(2, 1, 0), 0);
        Check.due("8: its point alone", r.point(1, 1, 1) + r.point(2, 0, 1), 0);
        for (int wrong : WRONG) {
            Check.throwing("8: x " + wrong, NO_SUCH, () -> r.point(wrong, 0, 0));
            Check.throwing("8: y " + wrong, NO_SUCH, () -> r.point(0, wrong, 0));
            Check.throwing("8: plane " + wrong, NO_SUCH, () -> r.point(0, 0, wrong));
        }
        Check.throwing("8: x 3", NO_SUCH, () -> r.point(3, 0, 0));
        Check.throwing("8: y 2", NO_SUCH, () -> r.point(0, 2, 0));
        Check.throwing("8: plane 2", NO_SUCH, () -> r.point(0, 0, 2));
    }

    private static void cover() {
        RasterCover r = new RasterCover(2, 2, 0);
        Check.due("9: no path", r.cover(1, 1), 0);
        r.clip(0);
        r.band(0, 0);
        box(r, 0, 0, 512, 512);
        box(r, 0, 0, 512, 512);
        Check.due("9: by rule 0, without the clip and the band", r.cover(1, 1), 255);
        Check.due("9: again", r.cover(1, 1), 255);
        Check.throwing("9: x 2", NO_SUCH, () -> r.cover(2, 0));
        Check.throwing("9: y 2", NO_SUCH, () -> r.cover(0, 2));
        for (int wrong : WRONG) {
            Check.throwing("9: x " + wrong, NO_SUCH, () -> r.cover(wrong, 0));
            Check.throwing("9: y " + wrong, NO_SUCH, () -> r.cover(0, wrong));
        }
    }

    private static void band() {
        RasterCover r = new RasterCover(1, 6, 1);
        Check.due("10: rows", r.band(2, 4), 2);
        Check.due("10: filled rows", fillBox(r, 0, 1, 0, 0, 256, 1536), 2);
        Check.due("10: the row above", r.point(0, 1, 0), 0);
        Check.due("10: the first row", r.point(0, 2, 0), 1);
        Check.due("10: the last row", r.point(0, 3, 0), 1);
        Check.due("10: the row behind", r.point(0, 4, 0), 0);
        Check.due("10: no rows", r.band(4, 2), 0);
        Check.due("10: no fill", fillBox(r, 0, 1, 0, 0, 256, 1536), 0);
        Check.due("10: cut above", r.band(Integer.MIN_VALUE, 1), 1);
        Check.due("10: cut below", r.band(5, Integer.MAX_VALUE), 1);
        Check.due("10: all above", r.band(-9, -3), 0);
        Check.due("10: all below", r.band(6, 9), 0);
        Check.due("10: turned about", r.band(Integer.MAX_VALUE, Integer.MIN_VALUE), 0);
        Check.due("10: all", r.band(-5, 99), 6);
        Check.due("10: fills all", fillBox(r, 0, 1, 0, 0, 256, 1536), 6);
    }

    private static void same() {
        RasterCover r = new RasterCover(2, 5, 1);
        r.hair(0, 0, 512, 1280);
        for (int bands = -2; bands < 9; bands++) {
            Check.due("11: bands " + bands, r.same(bands), bands >= 1 && bands <= 5);
        }
        Check.due("11: the least number", r.same(Integer.MIN_VALUE), false);
        Check.due("11: the greatest number", r.same(Integer.MAX_VALUE), false);
        Check.due("11: the path stays", r.move(0, 0), 5);
        Check.due("11: no rows", new RasterCover(3, 0, 1).same(1), false);
        Check.due("11: rows without points", new RasterCover(0, 2, 1).same(2), true);
    }

    private static void packedAre(String what, RasterCover r, int... want) {
        for (int i = 0; i < want.length; i++) {
            Check.due(what + ", byte " + i, r.packed(i), (byte) want[i]);
        }
        Check.throwing(what + ", the byte behind", NO_SUCH, () -> r.packed(want.length));
    }

    private static void packed() {
        RasterCover r = new RasterCover(48, 2, 2);
        packedAre("12: the longest runs", r, 80, 0, 80, 0, 80, 0, 80, 0);
        Check.throwing("12: byte -1", NO_SUCH, () -> r.packed(-1));
        Check.throwing("12: the least", NO_SUCH, () -> r.packed(Integer.MIN_VALUE));
        Check.throwing("12: the greatest", NO_SUCH, () -> r.packed(Integer.MAX_VALUE));
        packedAre("12: rows of one byte", new RasterCover(1, 2, 1), 1, 0, 1, 0);
        packedAre("12: rows of two bytes", new RasterCover(2, 1, 2), 126, 0, 126, 0);
        packedAre("12: no bytes", new RasterCover(0, 2, 2));
        packedAre("12: no planes", new RasterCover(2, 2, 0));
        RasterCover single = new RasterCover(48, 1, 1);
        int[] want = new int[49];
        want[0] = 48;
        for (int x = 0; x < 48; x++) {
            fillBox(single, 0, 200 + x, 256L * x, 0, 256L * x + 256, 256);
            want[1 + x] = 200 + x;
        }
        packedAre("12: single ones alone", single, want);
    }

    private static RasterCover row(int... bytes) {
        RasterCover r = new RasterCover(bytes.length, 1, 1);
        for (int x = 0; x < bytes.length; x++) {
            fillBox(r, 0, bytes[x], 256L * x, 0, 256L * x + 256, 256);
        }
        return r;
    }

    private static void packedRows() {
        packedAre("12: single ones before a run", row(1, 2, 3, 3), 2, 1, 2, 126, 3);
        packedAre("12: single ones behind a run", row(3, 3, 3, 2, 1), 125, 3, 2, 2, 1);
        packedAre("12: two runs", row(3, 3, 255, 255), 126, 3, 126, 255);
        packedAre("12: one between runs", row(7, 7, 8, 7, 7), 126, 7, 1, 8, 126, 7);
        packedAre("12: runs between single ones", row(1, 2, 2, 1, 3, 3, 3, 4), 1, 1, 126, 2, 1, 1, 125, 3, 1, 4);
        packedAre("12: bytes over 127", row(200, 128), 2, 200, 128);
    }

    private static void over() {
        RasterCover r = new RasterCover(1, 1, 2);
        Check.due("13: at first", r.over(1, true), 0);
        Check.due("13: it was over", r.over(1, false), 1);
        Check.due("13: it was not", r.over(1, false), 0);
        Check.due("13: the other plane", r.over(0, true), 0);
        Check.throwing("13: plane 2", NO_SUCH, () -> r.over(2, true));
        for (int wrong : WRONG) {
            Check.throwing("13: plane " + wrong, NO_SUCH, () -> r.over(wrong, false));
        }
        Check.due("13: unchanged", r.over(0, true), 1);
    }
}
