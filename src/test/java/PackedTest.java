/** Promise 12. */
public final class PackedTest {
    public static void main(String[] args) {
        runs();
        singleOnes();
        runsAndSingleOnes();
        bytesAreSigned();
        rowByRow();
        planesOneBehindTheOther();
        asTheyAreNow();
        noSuchByte();
        Check.finish();
    }

    private static void packedDue(String what, RasterCover r, int... want) {
        for (int i = 0; i < want.length; i++) {
            Check.due(what + ", byte " + i, r.packed(i), (byte) want[i]);
        }
        Check.noSuch(what + ", byte", want.length, i -> r.packed(i));
    }

    private static void runs() {
        Check.promise(12, "a run of alike bytes, 2 .. 64, as long as can be: 128 less its length (as a byte), the byte");
        for (int width = 2; width <= 48; width++) {
            packedDue("a run of " + width, new RasterCover(width, 1, 1), 128 - width, 0);
        }
        packedDue("two", Shapes.row(9, 9), 126, 9);
        packedDue("three", Shapes.row(9, 9, 9), 125, 9);
        packedDue("two and two", Shapes.row(3, 3, 255, 255), 126, 3, 126, 255);
        packedDue("three and two", Shapes.row(3, 3, 3, 4, 4), 125, 3, 126, 4);
        packedDue("two that are alike, apart", Shapes.row(3, 3, 4, 4, 3, 3), 126, 3, 126, 4, 126, 3);
        RasterCover r = new RasterCover(48, 1, 1);
        Shapes.fillBox(r, 0, 9, 0, 0, 47 * 256, 256);
        packedDue("a run of 47 before a single one", r, 128 - 47, 9, 1, 0);
        Shapes.fillBox(r, 0, 0, 0, 0, 256, 256);
        packedDue("a run of 46 between single ones", r, 1, 0, 128 - 46, 9, 1, 0);
        Shapes.fillBox(r, 0, 8, 24 * 256, 0, 48 * 256, 256);
        packedDue("a run of 23, a run of 24", r, 1, 0, 128 - 23, 9, 128 - 24, 8);
    }

    private static void singleOnes() {
        Check.promise(12, "as many single ones, 1 .. 64, as come before two alike bytes or the row's end: how many, the bytes");
        packedDue("one", Shapes.row(9), 1, 9);
        packedDue("two", Shapes.row(9, 8), 2, 9, 8);
        packedDue("that are alike, apart", Shapes.row(9, 8, 9, 8), 4, 9, 8, 9, 8);
        for (int width : new int[] {3, 47, 48}) {
            int[] bytes = new int[width];
            int[] want = new int[width + 1];
            want[0] = width;
            for (int x = 0; x < width; x++) {
                bytes[x] = 200 + x;
                want[x + 1] = 200 + x;
            }
            packedDue(width + " to the row's end", Shapes.row(bytes), want);
        }
        packedDue("before two alike bytes", Shapes.row(1, 2, 3, 3), 2, 1, 2, 126, 3);
        packedDue("before three alike bytes", Shapes.row(1, 2, 3, 3, 3), 2, 1, 2, 125, 3);
        packedDue("one before two alike bytes", Shapes.row(1, 3, 3), 1, 1, 126, 3);
    }

    private static void runsAndSingleOnes() {
        Check.promise(12, "of each row, from its beginning, again and again");
        packedDue("single ones behind a run", Shapes.row(3, 3, 3, 2, 1), 125, 3, 2, 2, 1);
        packedDue("one between runs", Shapes.row(7, 7, 8, 7, 7), 126, 7, 1, 8, 126, 7);
        packedDue("two between runs", Shapes.row(7, 7, 8, 9, 7, 7), 126, 7, 2, 8, 9, 126, 7);
        packedDue("runs between single ones", Shapes.row(1, 2, 2, 1, 3, 3, 3, 4), 1, 1, 126, 2, 1, 1, 125, 3, 1, 4);
        packedDue("a run at the row's end", Shapes.row(1, 2, 2), 1, 1, 126, 2);
        packedDue("a single one at the row's end", Shapes.row(2, 2, 1), 126, 2, 1, 1);
    }

    private static void bytesAreSigned() {
        Check.promise(12, "128 less its length (as a byte), the byte");
        RasterCover r = Shapes.row(127, 128, 255, 255);
        Check.due("127", r.packed(1), 127);
        Check.due("128", r.packed(2), -128);
        Check.due("how long a run of 2 is", r.packed(3), 126);
        Check.due("255", r.packed(4), -1);
        Check.due("how long a run of 48 is", new RasterCover(48, 1, 1).packed(0), 80);
    }

    private static void rowByRow() {
        Check.promise(12, "PACKED, row by row");
        packedDue("rows of one byte", new RasterCover(1, 3, 1), 1, 0, 1, 0, 1, 0);
        packedDue("rows of two bytes", new RasterCover(2, 2, 1), 126, 0, 126, 0);
        RasterCover r = new RasterCover(2, 3, 1);
        Shapes.fillBox(r, 0, 7, 256, 0, 512, 512);
        packedDue("a byte behind another is no run over the row's end", r, 2, 0, 7, 2, 0, 7, 126, 0);
        Shapes.fillBox(r, 0, 7, 0, 256, 256, 512);
        packedDue("a run begins with its row", r, 2, 0, 7, 126, 7, 126, 0);
    }

    private static void planesOneBehindTheOther() {
        Check.promise(12, "Byte i of all planes, one behind the other");
        packedDue("the planes' rows", new RasterCover(2, 1, 4), 126, 0, 126, 0, 126, 0, 126, 0);
        RasterCover r = new RasterCover(2, 2, 2);
        r.over(0, true);
        r.over(1, true);
        Shapes.fillBox(r, 0, 5, 0, 256, 256, 512);
        Shapes.fillBox(r, 1, 6, 0, 0, 512, 256);
        Shapes.fillBox(r, 1, 8, 0, 256, 512, 512);
        packedDue("plane by plane, row by row", r, 126, 0, 2, 5, 0, 126, 6, 126, 8);
        packedDue("one row, another plane", new RasterCover(1, 1, 2), 1, 0, 1, 0);
    }

    private static void asTheyAreNow() {
        Check.promise(12, "Byte i of all planes");
        RasterCover r = new RasterCover(3, 1, 1);
        packedDue("at first", r, 125, 0);
        Shapes.box(r, 256, 0, 512, 256);
        packedDue("before a fill", r, 125, 0);
        r.fill(0, 0, 4);
        packedDue("behind a fill", r, 3, 0, 4, 0);
        r.clip(0);
        r.end();
        packedDue("behind an end", r, 3, 0, 4, 0);
        Check.due("the last byte first", r.packed(3), 0);
        Check.due("and the first behind it", r.packed(0), 3);
    }

    private static void noSuchByte() {
        Check.promise(12, "ArrayIndexOutOfBoundsException.");
        RasterCover r = new RasterCover(48, 48, 4);
        Check.due("the last of the most rows", r.packed(2 * 48 * 4 - 1), 0);
        Check.noSuch("byte", 2 * 48 * 4, i -> r.packed(i));
        packedDue("no width", new RasterCover(0, 2, 2));
        packedDue("no height", new RasterCover(2, 0, 2));
        packedDue("no planes", new RasterCover(2, 2, 0));
        packedDue("the least", new RasterCover(1, 1, 1), 1, 0);
    }
}
