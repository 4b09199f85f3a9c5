/** Promises 21 to 24: aim, fire, mend, spare. */
public final class PlansTest {
    private static final Due due = new Due();

    public static void main(String[] args) {
        aims();
        fires();
        mends();
        spares();
        refusals();
        due.end();
    }

    private static void aims() {
        TinDucks x = Told.of("r0", "0at1;0ct9;0dt9", "a05;b05");
        due.is("of like ones the least", x.aim(0, 0), 2);
        due.is("how much", x.aim(0, 1), 9);
        x.rifle(0, 4);
        due.is("against the PULL", x.aim(0, 0), 0);
        due.is("how much", x.aim(0, 1), 9);
        x.rifle(0, 2);
        Told.text(x, 2, "a02;b05");
        due.is("SCORE is of all SHOTS", x.aim(1, 0), 3);
        due.is("how much", x.aim(1, 1), 18);
        due.is("its own COLUMN", x.aim(0, 0), 2);
        due.is("nothing is changed", x.shot(1, 2), 5);
        due.is("nothing is changed", x.sum(0), 9);
        Told.text(x, 1, "0et9");
        x.rifle(0, 0);
        due.is("no COLUMN but 0 to 5", x.aim(0, 0), 0);
        due.is("how much", x.aim(0, 1), 0);
        x.rifle(0, 2);
        Told.text(x, 0, "r0;r0");
        Told.text(x, 1, "0at1;1bt9;1ct5");
        Told.text(x, 2, "a05;b15;c12");
        due.is("on its own CHAIN", x.aim(0, 0), 0);
        due.is("on its own CHAIN", x.aim(1, 0), 1);
        due.is("how much", x.aim(1, 1), 14);
        Told.text(x, 1, "");
        due.is("no DUCKS: the least", x.aim(1, 0), 0);
        due.is("no DUCKS: 0", x.aim(1, 1), 0);
    }

    private static void fires() {
        TinDucks x = Told.of("r1", "0at4", "a03");
        due.is("when it had better be fired", x.fire(0, 0), 1);
        due.is("how much", x.fire(0, 1), 4);
        x.rifle(1, 3);
        due.is("by FLIGHT 3", x.fire(0, 0), 11);
        due.is("nothing is changed", x.shot(0, 0), 0);
        Told.text(x, 0, "r0");
        due.is("never: the least", x.fire(0, 0), 0);
        due.is("never: 0", x.fire(0, 1), 0);
        Told.text(x, 1, "0at4;0bt6");
        Told.text(x, 2, "c00;b01");
        due.is("SCORE is of all SHOTS", x.fire(0, 1), 10);
        Told.text(x, 0, "l1");
        Told.text(x, 1, "0ft7");
        Told.text(x, 2, "a05");
        x.rifle(1, 0);
        due.is("in the last TICK but one", x.fire(0, 0), 11);
        x.event(0, 22, 0);
        due.is("as late as may be", x.fire(0, 1), 7);
    }

    private static void mends() {
        TinDucks x = Told.of("r0", "0at3;0bt3;0ct2", "a02");
        due.is("of like ones the least", x.mend(0), 0);
        due.is("how much", x.mend(1), 3);
        Told.text(x, 2, "a00");
        due.is("to the right", x.mend(0), 2);
        Told.text(x, 1, "0ct2");
        due.is("as far as it goes", x.mend(0), 4);
        due.is("how much", x.mend(1), 2);
        due.is("nothing is changed", x.rifle(0, 2), 2);
        Told.text(x, 1, "0dt2");
        due.is("no PULL but 0 to 4", x.mend(0), 0);
        due.is("how much", x.mend(1), 0);
        Told.text(x, 1, "");
        due.is("no DUCKS: the least", x.mend(0), 0);
        due.is("no DUCKS: 0", x.mend(1), 0);
    }

    private static void spareIs(TinDucks x, int many, int first, int second) {
        due.is("spare(NONE)", x.spare(TinDucks.NONE), many);
        due.is("spare(0)", x.spare(0), first);
        due.is("spare(1)", x.spare(1), second);
    }

    private static void spares() {
        TinDucks x = Told.of("r0", "0at1", "a00");
        x.rifle(1, 0);
        spareIs(x, 0, -1, -1);
        x.event(2, 5, 0);
        spareIs(x, 0, -1, -1);
        x.event(1, 0, 0);
        spareIs(x, 1, 1, -1);
        x.event(1, 0, 1);
        spareIs(x, 2, 1, 2);
        x.event(1, 0, 2);
        spareIs(x, -1, -1, -1);
        due.is("nothing is changed", x.count(3), 4);
        x.wipe(2);
        spareIs(x, 0, -1, -1);

        x = Told.of("r0", "0at1", "a00");
        x.event(1, 1, 0);
        spareIs(x, 1, 0, -1);
        x.event(1, 5, 0);
        spareIs(x, 1, 0, -1);

        x = Told.of("r1", "0at1", "b01");
        x.rifle(1, 0);
        x.event(1, 7, 0);
        x.event(0, 0, 0);
        x.event(0, 1, 0);
        spareIs(x, 1, 1, -1);

        x = Told.of("r1", "0at1", "d02");
        x.rifle(1, 0);
        x.event(0, 0, 0);
        x.event(0, 1, 0);
        x.event(0, 2, 0);
        x.event(0, 3, 0);
        spareIs(x, 2, 0, 1);
    }

    private static void refusals() {
        TinDucks x = Told.of("", "0at1", "a00");
        int[][] bad = {{-1, 0}, {1, 0}, {0, -1}, {0, 2}};
        for (int[] b : bad) {
            due.is("aim(" + b[0] + ", " + b[1] + ")", x.aim(b[0], b[1]), TinDucks.BAD);
            due.is("fire(" + b[0] + ", " + b[1] + ")", x.fire(b[0], b[1]), TinDucks.BAD);
        }
        due.is("mend(-1)", x.mend(-1), TinDucks.BAD);
        due.is("mend(2)", x.mend(2), TinDucks.BAD);
        due.is("spare(-2)", x.spare(-2), TinDucks.BAD);
        due.is("spare(2)", x.spare(2), TinDucks.BAD);
    }
}
