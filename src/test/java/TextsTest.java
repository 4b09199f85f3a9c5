/** Promises 1 to 8: a new object, type, wipe, undo, fault, chain, duck, shot. */
public final class TextsTest {
    private static final Due due = new Due();

    public static void main(String[] args) {
        newObject();
        typing();
        wiping();
        undoing();
        chainFaults();
        duckFaults();
        shotFaults();
        chains();
        ducks();
        shots();
        faultyIsEmpty();
        due.end();
    }

    private static void newObject() {
        TinDucks x = new TinDucks();
        for (int what = 0; what <= 8; what++) {
            due.is("new: count(" + what + ")", x.count(what), 0);
        }
        for (int chain = 0; chain < 3; chain++) {
            due.is("new: chain(" + chain + ")", x.chain(chain), 1);
        }
        for (int s = 0; s < 4; s++) {
            due.is("new: lose(" + s + ")", x.lose(s), -11);
        }
        due.is("new: PULL", x.rifle(0, 0), 2);
        due.is("new: FLIGHT", x.rifle(1, 0), 1);
        due.is("new: back()", x.back(), TinDucks.NOT);
        due.is("new: forget()", x.forget(), 0);
    }

    private static void typing() {
        int[] limits = {8, 59, 47};
        for (int text = 0; text < 3; text++) {
            TinDucks x = new TinDucks();
            for (int i = 1; i <= limits[text]; i++) {
                due.is("type " + i + " of text " + text, x.type(text, i * 37 & 255), i);
            }
            due.is("type one too many", x.type(text, 0), TinDucks.FULL);
            due.is("type a bad byte to a full text", x.type(text, 256), TinDucks.BAD);
            due.is("type a bad byte to a full text", x.type(text, -1), TinDucks.BAD);
            due.is("its bytes", x.count(2), limits[text]);
            due.is("another text is its own", x.type((text + 1) % 3, 255), 1);
            due.is("bytes of both", x.count(2), limits[text] + 1);
        }
        TinDucks x = new TinDucks();
        due.is("type(-1, 0)", x.type(-1, 0), TinDucks.BAD);
        due.is("type(3, 0)", x.type(3, 0), TinDucks.BAD);
        due.is("type(0, -1)", x.type(0, -1), TinDucks.BAD);
        due.is("type(0, 256)", x.type(0, 256), TinDucks.BAD);
        due.is("type(0, 0)", x.type(0, 0), 1);
        due.is("type(0, 255)", x.type(0, 255), 2);
        due.is("bytes", x.count(2), 2);
    }

    private static void wiping() {
        TinDucks x = Told.of("l2", "0at1", "a00;b11");
        due.is("wipe(0)", x.wipe(0), 2);
        due.is("wipe(0) again", x.wipe(0), 0);
        due.is("chain(0) then", x.chain(0), 1);
        due.is("wipe(2)", x.wipe(2), 7);
        due.is("wipe(1)", x.wipe(1), 4);
        due.is("ducks then", x.count(0), 0);
        due.is("bytes then", x.count(2), 0);
        due.is("wipe(3)", x.wipe(3), TinDucks.BAD);
        due.is("wipe(-1)", x.wipe(-1), TinDucks.BAD);
        due.is("type behind wipe", x.type(1, '0'), 1);
    }

    private static void undoing() {
        TinDucks x = Told.of("l2", "0at1;1bh2", "");
        due.is("undo(0)", x.undo(0), 1);
        due.is("chain(0) then", x.chain(0), 1);
        due.is("undo(0)", x.undo(0), 0);
        due.is("undo(0) of none", x.undo(0), TinDucks.NOT);
        due.is("undo(2) of none", x.undo(2), TinDucks.NOT);
        due.is("undo(3)", x.undo(3), TinDucks.BAD);
        due.is("undo(-1)", x.undo(-1), TinDucks.BAD);
        due.is("two ducks", x.count(0), 2);
        for (int left = 8; left >= 5; left--) {
            due.is("undo(1)", x.undo(1), left);
            due.is("with a FAULT no ducks", x.count(0), 0);
        }
        due.is("undo(1) of the ;", x.undo(1), 4);
        due.is("one duck", x.count(0), 1);
    }

    private static void faultIs(int text, String s, int want) {
        TinDucks x = new TinDucks();
        Told.text(x, text, s);
        due.is("fault(" + text + ") of " + s, x.fault(text), want);
    }

    private static void chainFaults() {
        faultIs(0, "", -1);
        faultIs(0, "r", 1);
        faultIs(0, "l0", -1);
        faultIs(0, "r3", -1);
        faultIs(0, "r4", 1);
        faultIs(0, "r/", 1);
        faultIs(0, "R1", 0);
        faultIs(0, "1r", 0);
        faultIs(0, ";", 0);
        faultIs(0, "r1;", 3);
        faultIs(0, "r1r1", 2);
        faultIs(0, "r1;;", 3);
        faultIs(0, "r1;l", 4);
        faultIs(0, "r1;l2", -1);
        faultIs(0, "r1;l2;", 6);
        faultIs(0, "r1;l2;r3", -1);
        faultIs(0, "r1;l2;r9", 7);
        faultIs(0, "\u0072\u00b1", 1);
        TinDucks x = new TinDucks();
        due.is("fault(3)", x.fault(3), TinDucks.BAD);
        due.is("fault(-1)", x.fault(-1), TinDucks.BAD);
    }

    private static void duckFaults() {
        faultIs(1, "", -1);
        faultIs(1, "0", 1);
        faultIs(1, "0a", 2);
        faultIs(1, "0at", 3);
        faultIs(1, "0at1", -1);
        faultIs(1, "3at1", 0);
        faultIs(1, "2lg9", -1);
        faultIs(1, "2mg9", 1);
        faultIs(1, "2`g9", 1);
        faultIs(1, "2ax9", 2);
        faultIs(1, "2ag0", 3);
        faultIs(1, "2ag:", 3);
        faultIs(1, "0at1;", 5);
        faultIs(1, "0at10", 4);
        faultIs(1, "0at1;0at1", 6);
        faultIs(1, "0at1;1at1", -1);
        faultIs(1, "0at1;0bt1;0a", 11);
        faultIs(1, "0at1;0bt1;0b", 11);
        faultIs(1, "0at1;0bt1;2b", 12);
        faultIs(1, "0at1;0bt1;x", 10);
        faultIs(1, "0at1;0at1;x", 6);
        faultIs(1, "0at1;0bt1;0ct1;0dt1;0et1;0ft1;0gt1;0ht1;0it1;0jt1;0kt1;0lt1", -1);
        faultIs(1, "0at1;0bt1;0ct1;0dt1;0et1;0ft1;0gt1;0ht1;0it1;0jt1;0kt1;0at1", 56);
    }

    private static void shotFaults() {
        faultIs(2, "", -1);
        faultIs(2, "a", 1);
        faultIs(2, "a0", 2);
        faultIs(2, "a00", -1);
        faultIs(2, "x25", -1);
        faultIs(2, "y25", 0);
        faultIs(2, "`25", 0);
        faultIs(2, "x35", 1);
        faultIs(2, "x26", 2);
        faultIs(2, "x25,", 3);
        faultIs(2, "x25;", 4);
        faultIs(2, "x25;x25", -1);
        faultIs(2, "a00;a00;a00;a00;a00;a00;a00;a00;a00;a00;a00;a00", -1);
        faultIs(2, "a00;a00;a00;a00;a00;a00;a00;a00;a00;a00;a00;a06", 46);
    }

    private static void chains() {
        TinDucks x = Told.of("l3;r2", "", "");
        due.is("chain(0)", x.chain(0), -3);
        due.is("chain(1)", x.chain(1), 2);
        due.is("chain(2) is not told", x.chain(2), 1);
        due.is("chain(3)", x.chain(3), Told.LEAST);
        due.is("chain(-1)", x.chain(-1), Told.LEAST);
        Told.text(x, 0, "l0;r0;l1");
        due.is("chain(0) of l0", x.chain(0), 0);
        due.is("chain(1) of r0", x.chain(1), 0);
        due.is("chain(2) of l1", x.chain(2), -1);
        Told.text(x, 0, "l2;l");
        due.is("chain(0) with a FAULT behind it", x.chain(0), 1);
    }

    private static void ducks() {
        TinDucks x = Told.of("", "2lg9;0at1;1fh5", "");
        int[][] want = {{2, 11, 2, 9}, {0, 0, 0, 1}, {1, 5, 1, 5}};
        for (int duck = 0; duck < 3; duck++) {
            for (int what = 0; what < 4; what++) {
                due.is("duck(" + duck + ", " + what + ")", x.duck(duck, what), want[duck][what]);
            }
        }
        due.is("duck(3, 0)", x.duck(3, 0), TinDucks.BAD);
        due.is("duck(-1, 0)", x.duck(-1, 0), TinDucks.BAD);
        due.is("duck(0, 4)", x.duck(0, 4), TinDucks.BAD);
        due.is("duck(0, -1)", x.duck(0, -1), TinDucks.BAD);
        due.is("count(0)", x.count(0), 3);
    }

    private static void shots() {
        TinDucks x = Told.of("", "", "x25;a00;m13");
        int[][] want = {{23, 2, 5}, {0, 0, 0}, {12, 1, 3}};
        for (int shot = 0; shot < 3; shot++) {
            for (int what = 0; what < 3; what++) {
                due.is("shot(" + shot + ", " + what + ")", x.shot(shot, what), want[shot][what]);
            }
        }
        due.is("shot(3, 0)", x.shot(3, 0), TinDucks.BAD);
        due.is("shot(-1, 0)", x.shot(-1, 0), TinDucks.BAD);
        due.is("shot(0, 3)", x.shot(0, 3), TinDucks.BAD);
        due.is("shot(0, -1)", x.shot(0, -1), TinDucks.BAD);
        due.is("count(1)", x.count(1), 3);
    }

    private static void faultyIsEmpty() {
        TinDucks x = Told.of("l2;", "0at1;", "a00;");
        due.is("chains with a FAULT", x.chain(0), 1);
        due.is("ducks with a FAULT", x.duck(0, 0), TinDucks.BAD);
        due.is("shots with a FAULT", x.shot(0, 0), TinDucks.BAD);
        due.is("count(0) with a FAULT", x.count(0), 0);
        due.is("count(1) with a FAULT", x.count(1), 0);
        due.is("its bytes are there", x.count(2), 12);
        x.undo(0);
        x.undo(1);
        x.undo(2);
        due.is("chains without", x.chain(0), -2);
        due.is("ducks without", x.duck(0, 3), 1);
        due.is("shots without", x.shot(0, 0), 0);
    }
}
