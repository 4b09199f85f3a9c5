/** Promises 32 to 37: sheet, lose, lay, get, copy, write. */
public final class SheetsTest {
    private static final int NULL = -11, INDEX = -12, CAST = -13, STORE = -14, SIZE = -15;
    private static final Due due = new Due();

    public static void main(String[] args) {
        making();
        losing();
        laying();
        getting();
        copying();
        copyRefuses();
        writing();
        findingsChangeNothing();
        due.end();
    }

    private static void making() {
        TinDucks x = new TinDucks();
        due.is("sheet(0, 0, 0)", x.sheet(0, 0, 0), 0);
        due.is("sheet(3, 2, 60)", x.sheet(3, 2, 60), 60);
        due.is("sheet(3, 2, 61)", x.sheet(3, 2, 61), TinDucks.BAD);
        due.is("sheet(4, 0, 1)", x.sheet(4, 0, 1), TinDucks.BAD);
        due.is("sheet(-1, 0, 1)", x.sheet(-1, 0, 1), TinDucks.BAD);
        due.is("sheet(0, 3, 1)", x.sheet(0, 3, 1), TinDucks.BAD);
        due.is("sheet(0, -1, 1)", x.sheet(0, -1, 1), TinDucks.BAD);
        due.is("BAD ahead of SIZE", x.sheet(4, 0, -1), TinDucks.BAD);
        due.is("BAD ahead of SIZE", x.sheet(0, 3, -1), TinDucks.BAD);
        due.is("no FINDING so far", x.count(8), 0);
        due.is("sheet(0, 0, -1)", x.sheet(0, 0, -1), SIZE);
        due.is("count(8)", x.count(8), 5);
        due.is("the old row is there", x.lose(3), 60);
        x.sheet(1, 1, 2);
        x.lay(1, 1, 1, 77);
        due.is("a new row", x.sheet(1, 1, 3), 3);
        due.is("items are 0 at first", x.get(1, 1, 1), 0);
    }

    private static void losing() {
        TinDucks x = new TinDucks();
        due.is("lose(4)", x.lose(4), TinDucks.BAD);
        due.is("lose(-1)", x.lose(-1), TinDucks.BAD);
        due.is("no FINDING so far", x.count(8), 0);
        due.is("lose(2)", x.lose(2), NULL);
        due.is("count(8)", x.count(8), 1);
        x.sheet(2, 0, 17);
        due.is("lose(2)", x.lose(2), 17);
        due.is("lose(2) again", x.lose(2), NULL);
        x.sheet(2, 0, 0);
        due.is("lose(2) of no items", x.lose(2), 0);
    }

    private static void laying() {
        TinDucks x = new TinDucks();
        int[] values = {0, 1, -1, 127, 128, -129, 255, 256, 32767, 32768, -32769, 65536, Integer.MAX_VALUE, Integer.MIN_VALUE};
        for (int v : values) {
            x.sheet(0, 0, 3);
            x.sheet(1, 1, 3);
            x.sheet(2, 2, 3);
            for (int s = 0; s < 3; s++) {
                due.is("lay(" + s + ", " + s + ", 1, " + v + ")", x.lay(s, s, 1, v), 1);
                due.is("its neighbour", x.get(s, s, 0), 0);
                due.is("its neighbour", x.get(s, s, 2), 0);
            }
            due.is("as a byte", x.get(0, 0, 1), (byte) v);
            due.is("as a short", x.get(1, 1, 1), (short) v);
            due.is("as an int, " + v, x.get(2, 2, 1), v);
        }
        due.is("lay: SHEET 4", x.lay(4, 0, 0, 0), TinDucks.BAD);
        due.is("lay: SHEET -1", x.lay(-1, 0, 0, 0), TinDucks.BAD);
        due.is("lay: FORM 3", x.lay(0, 3, 0, 0), TinDucks.BAD);
        due.is("lay: FORM -1", x.lay(0, -1, 0, 0), TinDucks.BAD);
        due.is("lay: FORM 3 to a LOST one", x.lay(3, 3, 0, 0), TinDucks.BAD);
        due.is("no FINDING so far", x.count(8), 0);
        due.is("lay: LOST", x.lay(3, 0, 99, 0), NULL);
        due.is("count(8)", x.count(8), 1);
        due.is("lay: CAST ahead of INDEX", x.lay(0, 1, 99, 0), CAST);
        due.is("count(8)", x.count(8), 3);
        due.is("lay: item 3", x.lay(0, 0, 3, 0), INDEX);
        due.is("count(8)", x.count(8), 2);
        due.is("lay: item -1", x.lay(0, 0, -1, 0), INDEX);
        x.sheet(3, 2, 0);
        due.is("lay: no items", x.lay(3, 2, 0, 0), INDEX);
        x.sheet(3, 2, 60);
        due.is("lay: item 59", x.lay(3, 2, 59, 5), 1);
        due.is("lay: item 60", x.lay(3, 2, 60, 5), INDEX);
    }

    private static void getting() {
        TinDucks x = new TinDucks();
        due.is("get: SHEET 4", x.get(4, 0, 0), Told.LEAST);
        due.is("get: FORM 3", x.get(0, 3, 0), Told.LEAST);
        due.is("no FINDING so far", x.count(8), 0);
        due.is("get: LOST", x.get(0, 0, 0), Told.LEAST);
        due.is("count(8)", x.count(8), 1);
        x.sheet(0, 1, 2);
        due.is("get: CAST", x.get(0, 0, 5), Told.LEAST);
        due.is("count(8)", x.count(8), 3);
        due.is("get: INDEX", x.get(0, 1, 2), Told.LEAST);
        due.is("count(8)", x.count(8), 2);
        due.is("get: item 1", x.get(0, 1, 1), 0);
        due.is("it stays the latest", x.count(8), 2);
    }

    private static TinDucks rows() {
        TinDucks x = new TinDucks();
        x.sheet(0, 1, 6);
        x.sheet(1, 1, 4);
        x.sheet(2, 2, 6);
        for (int i = 0; i < 6; i++) {
            x.lay(0, 1, i, 10 + i);
            x.lay(2, 2, i, 20 + i);
        }
        return x;
    }

    private static void rowIs(TinDucks x, int s, int form, int... want) {
        for (int i = 0; i < want.length; i++) {
            due.is("item " + i + " of SHEET " + s, x.get(s, form, i), want[i]);
        }
    }

    private static void copying() {
        TinDucks x = rows();
        due.is("copy", x.copy(0, 1, 1, 2, 2), 1);
        rowIs(x, 1, 1, 0, 0, 11, 12);
        rowIs(x, 0, 1, 10, 11, 12, 13, 14, 15);
        due.is("copy to the right", x.copy(0, 0, 0, 1, 5), 1);
        rowIs(x, 0, 1, 10, 10, 11, 12, 13, 14);
        due.is("copy to the left", x.copy(0, 2, 0, 0, 4), 1);
        rowIs(x, 0, 1, 11, 12, 13, 14, 13, 14);
        due.is("copy none, at the ends", x.copy(0, 6, 1, 4, 0), 1);
        due.is("copy all", x.copy(1, 0, 0, 2, 4), 1);
        rowIs(x, 0, 1, 11, 12, 0, 0, 11, 12);
    }

    private static void copyRefuses() {
        TinDucks x = rows();
        due.is("copy: SHEET 4", x.copy(4, 0, 0, 0, 0), TinDucks.BAD);
        due.is("copy: to SHEET -1", x.copy(0, 0, -1, 0, 0), TinDucks.BAD);
        due.is("copy: BAD ahead of NULL", x.copy(3, 0, 4, 0, 0), TinDucks.BAD);
        due.is("no FINDING so far", x.count(8), 0);
        due.is("copy: from a LOST one", x.copy(3, 0, 0, 0, -1), NULL);
        due.is("copy: to a LOST one", x.copy(0, 0, 3, 0, -1), NULL);
        due.is("count(8)", x.count(8), 1);
        due.is("copy: STORE ahead of INDEX", x.copy(0, -1, 2, 0, 9), STORE);
        due.is("count(8)", x.count(8), 4);
        int[][] bad = {{-1, 0, 1}, {0, -1, 1}, {0, 0, -1}, {0, 0, 5}, {6, 0, 1}, {7, 0, 0}, {0, 4, 1}, {0, 5, 0},
            {5, 0, 2}, {0, 3, 2}, {Integer.MAX_VALUE, 0, 1}, {0, Integer.MAX_VALUE, 1}, {1, 0, Integer.MAX_VALUE},
            {Integer.MIN_VALUE, 0, 1}, {0, Integer.MIN_VALUE, 1}, {0, 0, Integer.MIN_VALUE}};
        for (int[] b : bad) {
            due.is("copy(0, " + b[0] + ", 1, " + b[1] + ", " + b[2] + ")", x.copy(0, b[0], 1, b[1], b[2]), INDEX);
        }
        due.is("count(8)", x.count(8), 2);
        rowIs(x, 1, 1, 0, 0, 0, 0);
    }

    private static void writing() {
        TinDucks x = Told.of("r1", "0dh5;1at1", "a04;b05");
        x.rifle(1, 0);
        int[] is = {1, 2, 0, 0};
        for (int form = 0; form < 3; form++) {
            x.sheet(form, form, 30);
            x.lay(form, form, 24, 9);
            x.lay(form, form, 23, 9);
            due.is("write: 24 at most", x.write(0, form), 24);
            rowIs(x, form, form, is);
            due.is("the last", x.get(form, form, 23), 0);
            due.is("behind the last", x.get(form, form, 24), 9);
        }
        x.sheet(3, 0, 2);
        due.is("write: as many as there are", x.write(0, 3), 2);
        rowIs(x, 3, 0, 1, 2);
        due.is("write: another DUCK", x.write(1, 3), 2);
        rowIs(x, 3, 0, 0, 0);
        x.sheet(3, 0, 0);
        due.is("write: no items", x.write(0, 3), 0);
        x.lose(3);
        due.is("write: BAD ahead of NULL", x.write(2, 3), TinDucks.BAD);
        due.is("write: DUCK -1", x.write(-1, 0), TinDucks.BAD);
        due.is("write: SHEET 4", x.write(0, 4), TinDucks.BAD);
        due.is("write: SHEET -1", x.write(0, -1), TinDucks.BAD);
        due.is("no FINDING so far", x.count(8), 0);
        due.is("write: LOST", x.write(0, 3), NULL);
        due.is("count(8)", x.count(8), 1);
    }

    private static void findingsChangeNothing() {
        TinDucks x = rows();
        long before = x.digest();
        x.lay(0, 0, 0, 1);
        x.lay(0, 1, 6, 1);
        x.sheet(0, 1, -5);
        x.copy(0, 0, 2, 0, 1);
        x.read(3);
        x.write(0, 3);
        due.is("digest()", x.digest(), before);
        rowIs(x, 0, 1, 10, 11, 12, 13, 14, 15);
        due.is("its length", x.lose(0), 6);
    }
}
