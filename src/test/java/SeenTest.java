/** Promises 25 to 29: seen, forget, might, kind, ask. */
public final class SeenTest {
    private static final Due due = new Due();

    public static void main(String[] args) {
        seen();
        pulls();
        kinds();
        never();
        ask();
        noSuchDuck();
        due.end();
    }

    private static void seen() {
        TinDucks x = new TinDucks();
        int[][] bad = {{-1, 0, 0}, {24, 0, 0}, {0, -1, 0}, {0, 12, 0}, {0, 0, -1}, {0, 0, 2}};
        for (int[] b : bad) {
            due.is("seen(" + b[0] + ", " + b[1] + ", " + b[2] + ")", x.seen(b[0], b[1], b[2]), TinDucks.BAD);
        }
        due.is("count(7)", x.count(7), 0);
        for (int i = 1; i <= 8; i++) {
            due.is("seen " + i, x.seen(23, 11, i % 2), i);
        }
        due.is("a ninth", x.seen(0, 0, 0), TinDucks.FULL);
        due.is("a bad ninth", x.seen(0, 0, 2), TinDucks.BAD);
        due.is("count(7)", x.count(7), 8);
        due.is("forget()", x.forget(), 8);
        due.is("forget() again", x.forget(), 0);
        due.is("count(7)", x.count(7), 0);
        due.is("seen anew", x.seen(0, 0, 0), 1);
    }

    /** By PULL 0 and 4 it misses; by 1 tin is down; by 2 lead is dented; by 3 gum and tin above are down. */
    private static TinDucks gallery() {
        TinDucks x = Told.of("r0;r0", "0at1;0bh2;0cg3;1ct4", "a01");
        x.rifle(1, 0);
        return x;
    }

    private static void mightPull(int tick, int duck, int is, int bits) {
        TinDucks x = gallery();
        x.seen(tick, duck, is);
        due.is("PULLS by " + tick + ", " + duck + ", " + is, x.might(1), bits);
    }

    private static void pulls() {
        mightPull(0, 0, 1, 2);
        mightPull(5, 0, 0, 29);
        mightPull(0, 1, 1, 0);
        mightPull(0, 1, 0, 31);
        mightPull(23, 3, 1, 8);
        TinDucks x = gallery();
        due.is("all of them", x.might(1), 31);
        x.seen(5, 0, 0);
        x.seen(5, 3, 0);
        due.is("by both", x.might(1), 21);
        x.rifle(0, 0);
        due.is("in place of what is told", x.might(1), 21);
        x.forget();
        due.is("all of them again", x.might(1), 31);
        due.is("might(2)", x.might(2), TinDucks.BAD);
        due.is("might(-1)", x.might(-1), TinDucks.BAD);
        due.is("PULL is what it was", x.rifle(0, 2), 0);
    }

    private static void kinds() {
        TinDucks x = gallery();
        due.is("of all", x.kind(1), 7);
        x.seen(0, 1, 1);
        due.is("not of lead", x.kind(1), 5);
        due.is("another may not help", x.kind(0), 0);
        x.forget();
        x.seen(0, 1, 0);
        due.is("of lead", x.kind(1), 2);
        due.is("another may be of all", x.kind(0), 7);
        due.is("nothing is changed", x.duck(1, 2), 1);
        x.forget();
        Told.text(x, 1, "0at1;0bt2;0cg3;1bt4");
        x.seen(0, 3, 1);
        due.is("of gum, by what is above", x.kind(1), 4);
        due.is("kind(4)", x.kind(4), TinDucks.BAD);
        due.is("kind(-1)", x.kind(-1), TinDucks.BAD);
    }

    private static void never() {
        TinDucks x = Told.of("r0", "0at1;0bt1", "a00");
        x.rifle(1, 0);
        due.is("no EVENTS", x.might(0), 0);
        x.event(2, 1, 0);
        x.event(1, 0, 0);
        due.is("nothing SEEN", x.might(0), 3);
        x.seen(0, 0, 1);
        due.is("no DRAUGHT", x.might(0), 2);
        x.seen(1, 0, 1);
        due.is("and not SET: not one alone", x.might(0), 0);
        x.forget();
        x.seen(0, 1, 1);
        due.is("a DRAUGHT was", x.might(0), 1);
        due.is("EVENTS are as many", x.count(3), 2);
    }

    private static void ask() {
        TinDucks x = gallery();
        due.is("at once", x.ask(), 0);
        x.rifle(1, 2);
        due.is("when it has come", x.ask(), 2);
        x.event(2, 2, 0);
        due.is("SET ahead of the SHOT", x.ask(), 2);
        x.seen(3, 2, 1);
        due.is("one PULL alone: the least", x.ask(), 0);
        x.seen(3, 0, 1);
        due.is("none: the least", x.might(1), 0);
        due.is("none: the least", x.ask(), 0);

        x = Told.of("r0", "0at1;0bt2;0ct3;0dt4;0et5", "a02;f02");
        due.is("all apart", x.ask(), 1);
        Told.text(x, 1, "0at1;0bt2;0ct3");
        Told.text(x, 2, "");
        due.is("all alike: the least", x.ask(), 0);
        Told.text(x, 2, "d00");
        Told.text(x, 1, "0ct3");
        due.is("one apart", x.ask(), 4);
        Told.text(x, 1, "0at1;0ct3");
        Told.text(x, 2, "d00;h02");
        due.is("one apart, then two of either", x.ask(), 8);
        Told.text(x, 1, "0at1;0bt2;0ct3");
        Told.text(x, 2, "a00;f01");
        // down behind 1, by PULL 0 to 4: none, none, 0, 1, 2; behind 6: none, 0, 0 and 1, 1 and 2, 2
        due.is("apart later", x.ask(), 6);
    }

    private static void noSuchDuck() {
        for (int is = 0; is < 2; is++) {
            TinDucks x = gallery();
            x.event(1, 5, 0);
            x.seen(0, 4, is);
            due.is("no such DUCK: PULLS", x.might(1), 0);
            due.is("no such DUCK: NEVER", x.might(0), 0);
            due.is("no such DUCK: KIND", x.kind(0), 0);
            due.is("no such DUCK: ASK", x.ask(), 0);
            Told.text(x, 1, "0at1;0bh2;0cg3;1ct4;2at1");
            due.is("now there is one", x.might(1), is == 0 ? 31 : 0);
        }
    }
}
