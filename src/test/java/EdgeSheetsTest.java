/** Promises 32 to 38: each sentence on sheets and findings that names a boundary case, by itself. */
public final class EdgeSheetsTest {
    private static final int NULL = -11, INDEX = -12, CAST = -13, STORE = -14, SIZE = -15;
    private static final int[] ENDS = {Told.LEAST, Told.GREATEST};
    private static final Due due = new Due();

    public static void main(String[] args) {
        lostAtFirst();
        zeroToSixtyItems();
        zeroAtFirst();
        badAheadOfSize();
        sizeChangesNothing();
        loseTells();
        lowestBits();
        eachOrderOfLay();
        everyItem();
        leastIntOfGet();
        perhapsItself();
        copyOfNone();
        eachOrderOfCopy();
        belowZeroNotSoMany();
        twentyFourAtMost();
        eachOrderOfWrite();
        zeroBeforeAny();
        latestFinding();
        counts();
        due.end();
    }

    private static void lostAtFirst() {
        due.sentence("SHEETS 0 .. 3 are LOST (at first)");
        for (int s = 0; s < 4; s++) {
            TinDucks x = Told.of("", "0at1", "");
            for (int form = 0; form < 3; form++) {
                due.is("lay to SHEET " + s, x.lay(s, form, 0, 1), NULL);
                due.is("get from SHEET " + s, x.get(s, form, 0), Told.LEAST);
                due.is("count(8)", x.count(8), 1);
            }
            due.is("lose SHEET " + s, x.lose(s), NULL);
            due.is("read SHEET " + s, x.read(s), NULL);
            due.is("write to SHEET " + s, x.write(0, s), NULL);
            due.is("copy SHEET " + s, x.copy(s, 0, s, 0, 0), NULL);
            due.is("then it is a row", x.sheet(s, 0, 1), 1);
            due.is("the next is LOST still", x.lose((s + 1) % 4), NULL);
        }
    }

    private static void zeroToSixtyItems() {
        due.sentence("of 0 to 60 items");
        for (int s = 0; s < 4; s++) {
            for (int form = 0; form < 3; form++) {
                TinDucks x = new TinDucks();
                int[] good = {0, 1, 59, 60};
                for (int n : good) {
                    due.is("sheet(" + s + ", " + form + ", " + n + ")", x.sheet(s, form, n), n);
                    due.is("the last item", x.lay(s, form, n - 1, 7), n == 0 ? INDEX : 1);
                    due.is("one more", x.lay(s, form, n, 7), INDEX);
                    due.is("lose", x.lose(s), n);
                }
                due.is("sheet(" + s + ", " + form + ", 61)", x.sheet(s, form, 61), TinDucks.BAD);
                due.is("it is LOST still", x.lose(s), NULL);
            }
        }
    }

    private static void zeroAtFirst() {
        due.sentence("items (0 at first)");
        for (int form = 0; form < 3; form++) {
            TinDucks x = new TinDucks();
            for (int again = 0; again < 3; again++) {
                x.sheet(2, form, 60);
                for (int i = 0; i < 60; i += 59) {
                    due.is("item " + i, x.get(2, form, i), 0);
                    x.lay(2, form, i, 5);
                }
            }
            x.sheet(2, form, 1);
            x.sheet(2, form, 60);
            due.is("the last item of a row made larger", x.get(2, form, 59), 0);
            x.lay(2, form, 30, 5);
            x.lose(2);
            x.sheet(2, form, 60);
            due.is("an item of one that was LOST", x.get(2, form, 30), 0);
            x.lay(2, form, 30, 5);
            x.sheet(2, (form + 1) % 3, 60);
            due.is("a row of another FORM: its items", x.get(2, (form + 1) % 3, 30), 0);
            due.is("it is of the old FORM no more", x.lay(2, form, 0, 0), CAST);
        }
    }

    private static void badAheadOfSize() {
        due.sentence("BAD: SHEET, FORM, above 60; SIZE");
        TinDucks x = new TinDucks();
        int[][] bad = {{-1, 0, 1}, {4, 0, 1}, {0, -1, 1}, {0, 3, 1}, {0, 0, 61}, {-1, 0, -1}, {4, 0, -1}, {0, -1, -1}, {0, 3, -1},
            {0, 0, Told.GREATEST}, {Told.LEAST, 0, -1}, {Told.GREATEST, 0, -1}, {0, Told.LEAST, -1}, {0, Told.GREATEST, -1}};
        for (int[] b : bad) {
            due.is("sheet(" + b[0] + ", " + b[1] + ", " + b[2] + ")", x.sheet(b[0], b[1], b[2]), TinDucks.BAD);
        }
        due.is("BAD is no FINDING", x.count(8), 0);
        due.is("sheet(0, 0, -1)", x.sheet(0, 0, -1), SIZE);
        due.is("count(8)", x.count(8), 5);
        due.is("sheet(3, 2, the least int)", x.sheet(3, 2, Told.LEAST), SIZE);
        for (int s = 0; s < 4; s++) {
            due.is("it is LOST still", x.lose(s), NULL);
        }
    }

    private static void sizeChangesNothing() {
        due.sentence("They change nothing (FINDINGS but count() 8): of sheet");
        TinDucks x = new TinDucks();
        x.sheet(1, 1, 3);
        x.lay(1, 1, 2, 9);
        x.sheet(1, 2, -1);
        x.sheet(1, 2, 61);
        due.is("FORM and item of the old row", x.get(1, 1, 2), 9);
        due.is("its length", x.lose(1), 3);
    }

    private static void loseTells() {
        due.sentence("It is LOST: how many items it had. BAD; NULL");
        TinDucks x = new TinDucks();
        x.sheet(0, 0, 0);
        x.sheet(3, 2, 60);
        due.is("of none", x.lose(0), 0);
        due.is("of 60", x.lose(3), 60);
        due.is("of one LOST", x.lose(0), NULL);
        due.is("of one LOST", x.lose(3), NULL);
        int[] bad = {-1, 4, Told.LEAST, Told.GREATEST};
        for (int s : bad) {
            due.is("lose(" + s + ")", x.lose(s), TinDucks.BAD);
        }
    }

    private static void lowestBits() {
        due.sentence("becomes v (the lowest bits that it has)");
        int[] values = {0, 1, -1, 127, 128, 129, 255, 256, 257, -127, -128, -129, 32767, 32768, 32769, 65535, 65536, 65537,
            -32767, -32768, -32769, 0x12345678, 0x7fffff80, Told.GREATEST, Told.LEAST + 1, Told.LEAST};
        for (int v : values) {
            TinDucks x = new TinDucks();
            for (int form = 0; form < 3; form++) {
                x.sheet(form, form, 3);
                due.is("lay " + v + ", FORM " + form, x.lay(form, form, 1, v), 1);
                due.is("the item behind it", x.get(form, form, 2), 0);
                due.is("the item ahead of it", x.get(form, form, 0), 0);
            }
            due.is("the lowest 8 bits of " + v, x.get(0, 0, 1) & 0xff, v & 0xff);
            due.is("the lowest 16 bits of " + v, x.get(1, 1, 1) & 0xffff, v & 0xffff);
            due.is("all 32 bits of " + v, x.get(2, 2, 1), v);
            due.is("a byte, signed as Java's", x.get(0, 0, 1), (byte) v);
            due.is("a short, signed as Java's", x.get(1, 1, 1), (short) v);
            due.is("no FINDING", x.count(8), 0);
        }
    }

    private static void eachOrderOfLay() {
        due.sentence("of lay: BAD; NULL; CAST; INDEX");
        TinDucks x = new TinDucks();
        x.sheet(1, 1, 2);
        int[] badSheets = {-1, 4, Told.LEAST, Told.GREATEST};
        for (int s : badSheets) {
            due.is("SHEET " + s, x.lay(s, 1, 0, 0), TinDucks.BAD);
            due.is("SHEET " + s + ", INDEX too", x.lay(s, 1, 2, 0), TinDucks.BAD);
        }
        int[] badForms = {-1, 3, Told.LEAST, Told.GREATEST};
        for (int form : badForms) {
            due.is("FORM " + form, x.lay(1, form, 0, 0), TinDucks.BAD);
            due.is("FORM " + form + ", INDEX too", x.lay(1, form, 2, 0), TinDucks.BAD);
            due.is("FORM " + form + ", of a LOST one", x.lay(0, form, 0, 0), TinDucks.BAD);
        }
        due.is("no FINDING so far", x.count(8), 0);
        due.is("NULL, INDEX too", x.lay(0, 1, -1, 0), NULL);
        due.is("count(8)", x.count(8), 1);
        due.is("CAST", x.lay(1, 0, 0, 0), CAST);
        due.is("CAST, INDEX too", x.lay(1, 2, 2, 0), CAST);
        due.is("count(8)", x.count(8), 3);
        int[] badItems = {-1, 2, 60, Told.LEAST, Told.GREATEST};
        for (int i : badItems) {
            due.is("item " + i, x.lay(1, 1, i, 0), INDEX);
            due.is("count(8)", x.count(8), 2);
        }
        for (int form = 0; form < 3; form++) {
            for (int other = 0; other < 3; other++) {
                x.sheet(2, form, 1);
                due.is("of FORM " + form + " as of " + other, x.lay(2, other, 0, 0), form == other ? 1 : CAST);
            }
        }
    }

    private static void everyItem() {
        due.sentence("Item i, treated as of a FORM: 0 to one less than there are");
        for (int form = 0; form < 3; form++) {
            TinDucks x = new TinDucks();
            x.sheet(0, form, 60);
            for (int i = 0; i < 60; i++) {
                due.is("lay " + i, x.lay(0, form, i, i - 30), 1);
            }
            for (int i = 0; i < 60; i++) {
                due.is("get " + i, x.get(0, form, i), i - 30);
            }
        }
    }

    private static void getIs(TinDucks x, int s, int form, int i, int finding) {
        due.is("get(" + s + ", " + form + ", " + i + ")", x.get(s, form, i), Integer.MIN_VALUE);
        due.is("get(" + s + ", " + form + ", " + i + "): count(8)", x.count(8), finding);
    }

    private static void leastIntOfGet() {
        due.sentence("BAD: the least int; so are NULL, CAST, INDEX (count() 8 tells)");
        int[] out = {-1, 4, Told.LEAST, Told.GREATEST};
        for (int bad : out) {
            TinDucks x = new TinDucks();
            x.sheet(1, 1, 2);
            getIs(x, bad, 1, 0, 0);
            getIs(x, bad, 1, 9, 0);
            getIs(x, 1, bad == 4 ? 3 : bad, 0, 0);
            getIs(x, 0, bad == 4 ? 3 : bad, 9, 0);
            getIs(x, 0, 1, 9, 1);
            getIs(x, 1, 0, 9, 3);
            getIs(x, 1, 2, 0, 3);
            getIs(x, 1, 1, bad, 2);
            getIs(x, 1, 1, 2, 2);
            getIs(x, bad, 1, 0, 2);
            due.is("an item that there is", x.get(1, 1, 1), 0);
        }
        TinDucks x = new TinDucks();
        x.sheet(0, 2, 1);
        x.lay(0, 2, 0, Integer.MIN_VALUE);
        due.is("an item that is the least int", x.get(0, 2, 0), Integer.MIN_VALUE);
        due.is("is no FINDING", x.count(8), 0);
    }

    /** A row of 31, 32 and so on. */
    private static void rowOf(TinDucks x, int s, int form, int n) {
        x.sheet(s, form, n);
        for (int i = 0; i < n; i++) {
            x.lay(s, form, i, i + 31);
        }
    }

    private static void perhapsItself() {
        due.sentence("come to SHEET t (perhaps s, as they were)");
        for (int form = 0; form < 3; form++) {
            for (int i = 0; i <= 5; i++) {
                for (int j = 0; j <= 5; j++) {
                    TinDucks x = new TinDucks();
                    rowOf(x, 3, form, 8);
                    due.is("copy(3, " + i + ", 3, " + j + ", 3)", x.copy(3, i, 3, j, 3), 1);
                    for (int at = 0; at < 8; at++) {
                        boolean came = at >= j && at < j + 3;
                        due.is("item " + at, x.get(3, form, at), came ? at - j + i + 31 : at + 31);
                    }
                }
            }
        }
        TinDucks x = new TinDucks();
        rowOf(x, 0, 1, 60);
        due.is("all of 60, to itself", x.copy(0, 0, 0, 0, 60), 1);
        due.is("59 of 60, to the right", x.copy(0, 0, 0, 1, 59), 1);
        due.is("the first", x.get(0, 1, 0), 31);
        due.is("the second", x.get(0, 1, 1), 31);
        due.is("the last", x.get(0, 1, 59), 89);
    }

    private static void copyOfNone() {
        due.sentence("n items: none");
        TinDucks x = new TinDucks();
        rowOf(x, 0, 1, 3);
        x.sheet(1, 1, 0);
        due.is("of a row to one of no items", x.copy(0, 0, 1, 0, 0), 1);
        due.is("from the end to the end", x.copy(0, 3, 1, 0, 0), 1);
        due.is("of no items to a row", x.copy(1, 0, 0, 3, 0), 1);
        due.is("nothing came", x.get(0, 1, 0), 31);
        due.is("from behind the end", x.copy(0, 4, 1, 0, 0), INDEX);
        due.is("to behind the end", x.copy(0, 0, 1, 1, 0), INDEX);
        due.is("from below 0", x.copy(0, -1, 1, 0, 0), INDEX);
        due.is("to below 0", x.copy(0, 0, 1, -1, 0), INDEX);
        x.sheet(2, 2, 0);
        due.is("none, to an unlike FORM", x.copy(0, 0, 2, 0, 0), STORE);
    }

    private static void eachOrderOfCopy() {
        due.sentence("of copy: BAD: the SHEETS; NULL: s, t; STORE; INDEX");
        TinDucks x = new TinDucks();
        x.sheet(0, 0, 2);
        x.sheet(1, 1, 2);
        int[] bad = {-1, 4, Told.LEAST, Told.GREATEST};
        for (int s : bad) {
            due.is("from SHEET " + s, x.copy(s, 0, 0, 0, 1), TinDucks.BAD);
            due.is("to SHEET " + s, x.copy(0, 0, s, 0, 1), TinDucks.BAD);
            due.is("from SHEET " + s + " to a LOST one", x.copy(s, 0, 2, 0, -1), TinDucks.BAD);
            due.is("from a LOST one to SHEET " + s, x.copy(2, 0, s, 0, -1), TinDucks.BAD);
        }
        due.is("no FINDING so far", x.count(8), 0);
        due.is("from a LOST one, INDEX too", x.copy(2, -1, 0, 0, 1), NULL);
        due.is("to a LOST one, INDEX too", x.copy(0, 0, 2, -1, 1), NULL);
        due.is("from a LOST one to a LOST one", x.copy(2, 0, 3, 0, 0), NULL);
        due.is("from a LOST one to itself", x.copy(2, 0, 2, 0, 0), NULL);
        due.is("count(8)", x.count(8), 1);
        due.is("STORE, INDEX too", x.copy(0, -1, 1, 9, -1), STORE);
        due.is("STORE", x.copy(1, 0, 0, 0, 1), STORE);
        due.is("count(8)", x.count(8), 4);
        x.sheet(3, 2, 2);
        due.is("bytes to ints", x.copy(0, 0, 3, 0, 1), STORE);
        due.is("ints to shorts", x.copy(3, 0, 1, 0, 1), STORE);
        due.is("INDEX", x.copy(0, 0, 0, 1, 2), INDEX);
        due.is("count(8)", x.count(8), 2);
        due.is("nothing came", x.get(1, 1, 0), 0);
    }

    private static void belowZeroNotSoMany() {
        due.sentence("INDEX: below 0, not so many");
        int[] edges = {Told.LEAST, -4, -1, 0, 1, 2, 3, 4, 5, 6, Told.GREATEST};
        for (int i : edges) {
            for (int j : edges) {
                TinDucks x = new TinDucks();
                x.sheet(0, 2, 5);
                x.sheet(1, 2, 3);
                for (int n : edges) {
                    boolean there = i >= 0 && j >= 0 && n >= 0 && (long) i + n <= 5 && (long) j + n <= 3;
                    due.is("copy(0, " + i + ", 1, " + j + ", " + n + ")", x.copy(0, i, 1, j, n), there ? 1 : INDEX);
                }
            }
        }
    }

    private static void twentyFourAtMost() {
        due.sentence("as many as there are items, 24 at most: how many");
        int[] lengths = {0, 1, 2, 23, 24, 25, 60};
        for (int form = 0; form < 3; form++) {
            for (int n : lengths) {
                // dented behind 0, down behind 1, set in 3, down behind 23
                TinDucks x = Told.still("1at1;0ah1", "a00;b00;x00;x00");
                x.event(2, 3, 1);
                rowOf(x, 3, form, n);
                due.is("write to " + n + " items", x.write(1, 3), Math.min(n, 24));
                for (int i = 0; i < n; i++) {
                    int is = i == 0 ? 1 : i < 3 || i == 23 ? 2 : 0;
                    due.is("item " + i + " of " + n, x.get(3, form, i), i < 24 ? is : i + 31);
                }
                due.is("the row is as long as it was", x.lose(3), n);
            }
        }
    }

    private static void eachOrderOfWrite() {
        due.sentence("of write: BAD; NULL");
        TinDucks x = Told.of("", "0at1;0bt1", "");
        x.sheet(0, 0, 2);
        x.lay(0, 0, 0, 9);
        int[] badDucks = {-1, 2, 12, Told.LEAST, Told.GREATEST};
        for (int duck : badDucks) {
            due.is("DUCK " + duck, x.write(duck, 0), TinDucks.BAD);
            due.is("DUCK " + duck + ", to a LOST one", x.write(duck, 1), TinDucks.BAD);
        }
        int[] badSheets = {-1, 4, Told.LEAST, Told.GREATEST};
        for (int s : badSheets) {
            due.is("SHEET " + s, x.write(0, s), TinDucks.BAD);
        }
        due.is("no FINDING so far", x.count(8), 0);
        due.is("LOST", x.write(1, 1), NULL);
        due.is("count(8)", x.count(8), 1);
        due.is("nothing came", x.get(0, 0, 0), 9);
        x.wipe(1);
        due.is("no DUCKS", x.write(0, 0), TinDucks.BAD);
    }

    private static void zeroBeforeAny() {
        due.sentence("8 the number of the latest FINDING (0 before any)");
        TinDucks x = new TinDucks();
        due.is("count(8)", x.count(8), 0);
        x.sheet(0, 0, 1);
        x.lose(0);
        x.undo(0);
        x.back();
        x.get(4, 0, 0);
        x.count(9);
        due.is("what is done, BAD and NOT are no FINDINGS", x.count(8), 0);
    }

    private static void latestFinding() {
        due.sentence("FINDINGS (answers -10 less the number; they change nothing but count() 8)");
        TinDucks x = new TinDucks();
        x.sheet(0, 0, 1);
        x.sheet(1, 1, 1);
        due.is("SIZE", x.sheet(0, 0, -1), -10 - 5);
        due.is("count(8)", x.count(8), 5);
        due.is("STORE", x.copy(0, 0, 1, 0, 1), -10 - 4);
        due.is("count(8)", x.count(8), 4);
        due.is("CAST", x.lay(0, 1, 0, 0), -10 - 3);
        due.is("count(8)", x.count(8), 3);
        due.is("INDEX", x.lay(0, 0, 1, 0), -10 - 2);
        due.is("count(8)", x.count(8), 2);
        due.is("NULL", x.lose(2), -10 - 1);
        due.is("count(8)", x.count(8), 1);
        x.sheet(2, 0, 60);
        x.lay(0, 0, 0, 1);
        x.count(-1);
        due.is("it stays the latest", x.count(8), 1);
        for (int end : ENDS) {
            x.get(0, 0, end);
            due.is("count(8)", x.count(8), 2);
        }
    }

    private static void counts() {
        due.sentence("count: 0 DUCKS .. 8 the number of the latest FINDING. BAD");
        TinDucks x = Told.full();
        x.lose(3);
        int[] want = {12, 12, 8 + 59 + 47, 8, x.sum(0), x.sum(1), x.down(23), 8, 1};
        for (int what = 0; what <= 8; what++) {
            due.is("count(" + what + ")", x.count(what), want[what]);
        }
        int[] bad = {-1, 9, Told.LEAST, Told.GREATEST};
        for (int what : bad) {
            due.is("count(" + what + ")", x.count(what), TinDucks.BAD);
        }
        x = new TinDucks();
        for (int what = 0; what <= 8; what++) {
            due.is("new: count(" + what + ")", x.count(what), 0);
        }
        x = Told.still("0at5;0bh7;0ct2", "a00;x01;a05;x02");
        due.is("SCORE", x.count(4), 7);
        due.is("HITS", x.count(5), 3);
        due.is("DOWN behind TICK 23, not DENTED", x.count(6), 2);
        x.event(2, 23, 0);
        due.is("SET in TICK 23", x.count(6), 1);
    }
}
