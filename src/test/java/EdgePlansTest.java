import java.util.List;
import java.util.function.Supplier;
import java.util.function.ToLongFunction;

/** Promises 16 to 24: sums, runs and plans, each sentence that names a boundary case, by itself. */
public final class EdgePlansTest {
    private static final Due due = new Due();

    public static void main(String[] args) {
        nothingTold();
        sums();
        runs();
        easy();
        safe();
        aimLeast();
        aimEveryColumn();
        fireLeast();
        fireEveryTick();
        mendLeast();
        mendEveryPull();
        inPlaceOfItsOwn();
        eachByItself();
        twelfthOfLead();
        twelfthOfGum();
        spareNone();
        spareFewest();
        spareLeastRow();
        spareTheIth();
        noSuchShot();
        due.end();
    }

    private static void nothingTold() {
        due.sentence("no DUCKS, no SHOTS, no EVENTS");
        TinDucks x = new TinDucks();
        due.is("SCORE", x.sum(0), 0);
        due.is("HITS", x.sum(1), 0);
        due.is("MISSES", x.sum(2), 0);
        due.is("RUN", x.run(0), 0);
        due.is("its first", x.run(1), TinDucks.NONE);
        due.is("EASY", x.easy(), TinDucks.NONE);
        due.is("SAFE", x.safe(), 0);
        due.is("MEND", x.mend(0), 0);
        due.is("MEND brings", x.mend(1), 0);
        due.is("SPARE: no SHOT MISSES", x.spare(TinDucks.NONE), 0);
        due.is("SPARE: no first", x.spare(0), TinDucks.NONE);
        due.is("SPARE: no second", x.spare(1), TinDucks.NONE);
        due.is("AIM of no SHOT", x.aim(0, 0), TinDucks.BAD);
        due.is("FIRE of no SHOT", x.fire(0, 0), TinDucks.BAD);
        x = Told.of("", "", "a00;b11");
        due.is("SHOTS alone: MISSES", x.sum(2), 2);
        due.is("SHOTS alone: AIM", x.aim(1, 0), 0);
        due.is("SHOTS alone: AIM brings", x.aim(1, 1), 0);
        due.is("SHOTS alone: FIRE", x.fire(1, 0), 0);
        due.is("SHOTS alone: FIRE brings", x.fire(1, 1), 0);
        due.is("SHOTS alone: SPARE", x.spare(TinDucks.NONE), TinDucks.NONE);
        x = Told.of("", "0at1;1bt1", "");
        due.is("DUCKS alone: EASY", x.easy(), TinDucks.NONE);
        due.is("DUCKS alone: SAFE", x.safe(), 3);
        due.is("DUCKS alone: MEND", x.mend(0), 0);
        x.event(1, 3, 0);
        due.is("DUCKS and an EVENT: SPARE", x.spare(TinDucks.NONE), 0);
    }

    /** Twelve shots at twelve columns: those of bits at ducks, the others at none. */
    private static TinDucks hitting(int bits) {
        StringBuilder ducks = new StringBuilder();
        StringBuilder shots = new StringBuilder();
        for (int i = 0; i < 12; i++) {
            String at = i / 6 + "" + (char) ('a' + i % 6);
            ducks.append((bits >> i & 1) == 0 ? "" : ";" + at + "t1");
            shots.append(i == 0 ? "" : ";").append("a").append(i / 6).append(i % 6);
        }
        return Told.still(ducks.length() == 0 ? "" : ducks.substring(1), shots.toString());
    }

    private static void sums() {
        due.sentence("HITS: how many SHOTS HIT any; MISSES: how many do not");
        int[] rows = {0, 1, 2048, 1365, 2730, 4094, 4095};
        for (int bits : rows) {
            TinDucks x = hitting(bits);
            due.is("HITS of " + bits, x.sum(1), Integer.bitCount(bits));
            due.is("MISSES of " + bits, x.sum(2), 12 - Integer.bitCount(bits));
            due.is("count(5) of " + bits, x.count(5), Integer.bitCount(bits));
            due.is("SCORE of " + bits, x.sum(0), Integer.bitCount(bits));
        }
        TinDucks x = Told.still("0ah9", "a00");
        due.is("one that dents HITS", x.sum(1), 1);
        due.is("and brings nothing", x.sum(0), 0);
        due.is("sum(-1)", x.sum(-1), TinDucks.BAD);
        due.is("sum(3)", x.sum(3), TinDucks.BAD);
    }

    private static void runs() {
        due.sentence("the most SHOTS that HIT, one behind another as told; the first of them; NONE: 0");
        for (int bits = 0; bits < 4096; bits += bits < 64 ? 1 : 61) {
            int most = 0;
            int first = TinDucks.NONE;
            for (int from = 0; from < 12; from++) {
                int n = Integer.numberOfTrailingZeros(~(bits >> from));
                if (n > most) {
                    most = n;
                    first = from;
                }
            }
            TinDucks x = hitting(bits);
            due.is("RUN of " + bits, x.run(0), most);
            due.is("the first of " + bits, x.run(1), first);
        }
        due.is("all of twelve", hitting(4095).run(0), 12);
        due.is("the first of them", hitting(4095).run(1), 0);
        due.is("the last one alone", hitting(2048).run(1), 11);
        due.is("run(-1)", hitting(1).run(-1), TinDucks.BAD);
        due.is("run(2)", hitting(1).run(2), TinDucks.BAD);
    }

    private static void easy() {
        due.sentence("the DUCK that is HIT most often, of like ones the least; NONE: none ever");
        due.is("all alike", hitting(4095).easy(), 0);
        due.is("none ever", hitting(0).easy(), TinDucks.NONE);
        String ducks = "0lt1;0kt1;0jt1;0it1;0ht1;0gt1;0ft1;0et1;0dt1;0ct1;0bh1;0ah1";
        due.is("the last alone", Told.still(ducks, "a00").easy(), 11);
        due.is("of like ones the least, whoever is HIT first", Told.still(ducks, "a00;b01").easy(), 10);
        due.is("the most", Told.still(ducks, "a00;b01;c00").easy(), 11);
        due.is("one that DENTED was HIT", Told.still("0at1;0bh1", "a01").easy(), 1);
        due.is("HIT in TICK 23", Told.still("0at1;0bh1", "a00;a01;x01").easy(), 1);
        due.is("HIT in TICK 23 alone", Told.still("0at1;0bh1", "x01").easy(), 1);
        due.is("by gum from below", Told.still("0bt1;1ah1;0ag1", "a00;b10").easy(), 1);
    }

    private static void safe() {
        due.sentence("SAFE: DUCKS that are never HIT, as bits");
        due.is("all of twelve", Told.still(Told.ROUND_OF_TIN, "").safe(), 4095);
        due.is("none of twelve", hitting(4095).safe(), 0);
        due.is("the last", Told.still(Told.ROUND_OF_TIN, "a00;a01;a02;a03;a04;a05").safe(), 4032);
        due.is("the first is not", Told.still(Told.ROUND_OF_TIN, "a00").safe(), 4094);
        due.is("a DENTED one is not", Told.still("0ah1", "x00").safe(), 0);
        TinDucks x = Told.still("0at1", "a00");
        x.event(2, 1, 0);
        due.is("one that is SET is not", x.safe(), 0);
    }

    private static void aimLeast() {
        due.sentence("AIM: the COLUMN by which SCORE is most, of like ones the least");
        TinDucks x = Told.still("0bt5;0ct5;0ft5", "a05");
        due.is("which", x.aim(0, 0), 1);
        due.is("how much", x.aim(0, 1), 5);
        due.is("none brings any: the least", Told.still("1at1", "a05").aim(0, 0), 0);
        due.is("lead that it only dents brings none", Told.still("0ah9;0ft1", "a00").aim(0, 0), 5);
    }

    private static void aimEveryColumn() {
        due.sentence("AIM of a SHOT: the COLUMN, in place of its own");
        for (int pull = 0; pull <= 4; pull++) {
            for (int place = 0; place <= 5; place++) {
                TinDucks x = Told.still("0" + (char) ('a' + place) + "t7", "a02");
                x.rifle(0, pull);
                int column = place - pull + 2;
                boolean is = column >= 0 && column <= 5;
                due.is("PULL " + pull + ", PLACE " + place + ": which", x.aim(0, 0), is ? column : 0);
                due.is("PULL " + pull + ", PLACE " + place + ": how much", x.aim(0, 1), is ? 7 : 0);
            }
        }
        due.is("of one that comes too late", Told.of("r0", "0ft7", "x02").aim(0, 1), 0);
    }

    private static void fireLeast() {
        due.sentence("FIRE: the TICK, in place of its own, likewise");
        TinDucks x = Told.still("0at5", "k00");
        due.is("all alike: the least", x.fire(0, 0), 0);
        due.is("how much", x.fire(0, 1), 5);
        x = Told.still("1at5", "x00");
        due.is("none brings any: the least", x.fire(0, 0), 0);
        due.is("how much", x.fire(0, 1), 0);
        x = Told.of("r1", "0lt5", "k03");
        x.rifle(1, 0);
        due.is("twice round: the least", x.fire(0, 0), 3);
    }

    private static void fireEveryTick() {
        due.sentence("FIRE of a SHOT: the TICK, 0 to 23");
        for (int flight = 0; flight <= 3; flight++) {
            for (int comes = 0; comes <= 23; comes++) {
                // the draught alone brings the shot to it
                TinDucks x = Told.still("0bg5", "k00");
                x.rifle(1, flight);
                x.event(1, comes, 0);
                boolean is = comes >= flight;
                due.is("FLIGHT " + flight + ", comes in " + comes, x.fire(0, 0), is ? comes - flight : 0);
                due.is("how much", x.fire(0, 1), is ? 5 : 0);
            }
        }
    }

    private static void mendLeast() {
        due.sentence("MEND: the PULL by which SCORE is most, of like ones the least");
        TinDucks x = Told.still("0bt5;0ct5;0dt5", "a02");
        due.is("which", x.mend(0), 1);
        due.is("how much", x.mend(1), 5);
        due.is("in place of what is told", x.rifle(0, 4), 2);
        due.is("which", x.mend(0), 1);
        x = Told.still("1bt5", "a02");
        due.is("none brings any: the least", x.mend(0), 0);
        due.is("how much", x.mend(1), 0);
        due.is("mend(-1)", x.mend(-1), TinDucks.BAD);
        due.is("mend(2)", x.mend(2), TinDucks.BAD);
    }

    private static void mendEveryPull() {
        due.sentence("the PULL (0 to 4), in place of what is told");
        for (int place = 0; place <= 5; place++) {
            for (int column = 0; column <= 5; column++) {
                TinDucks x = Told.still("0" + (char) ('a' + place) + "t7", "a0" + column);
                int pull = place - column + 2;
                boolean is = pull >= 0 && pull <= 4;
                due.is("COLUMN " + column + ", PLACE " + place + ": which", x.mend(0), is ? pull : 0);
                due.is("COLUMN " + column + ", PLACE " + place + ": how much", x.mend(1), is ? 7 : 0);
            }
        }
    }

    private static void inPlaceOfItsOwn() {
        due.sentence("plans change nothing");
        due.holds("aim, fire, mend, spare", Whole.isUnchangedBy(Told::full, x -> {
            x.aim(11, 0);
            x.fire(11, 1);
            x.mend(0);
            x.spare(0);
        }));
    }

    /** Calls that search, each in a gallery in which they answer differently. */
    private static final List<ToLongFunction<TinDucks>> SEARCHES = List.of(
        x -> x.run(0), x -> x.run(1), TinDucks::easy, TinDucks::safe, x -> x.aim(0, 0), x -> x.aim(0, 1), x -> x.aim(1, 0),
        x -> x.aim(1, 1), x -> x.fire(0, 0), x -> x.fire(0, 1), x -> x.fire(1, 0), x -> x.fire(1, 1), x -> x.mend(0), x -> x.mend(1),
        x -> x.spare(-1), x -> x.spare(0), x -> x.spare(1), x -> x.might(0), x -> x.might(1), x -> x.kind(0), x -> x.kind(2),
        TinDucks::ask, x -> x.chance(5, 0, 0), x -> x.chance(5, 1, 1), x -> x.fairs(7, 12, 0), x -> x.fairs(7, 12, 1), x -> x.sum(0),
        x -> x.hits(0, 1), x -> x.at(23, 1, 1), TinDucks::digest);

    private static TinDucks searched() {
        TinDucks x = Told.still("0at1;0fh9;0dt7;1cg4;2ct2", "c00;d01;c12");
        x.event(1, 3, 0);
        x.event(2, 9, 3);
        x.seen(5, 3, 1);
        return x;
    }

    /** Whatever is changed, lead is dented at most, and nothing is brought. */
    private static TinDucks dented() {
        return Told.still("1at1;0bh9;2ch9", "a01;a22");
    }

    private static void eachBehindEach(Supplier<TinDucks> made) {
        for (int first = 0; first < SEARCHES.size(); first++) {
            for (int then = 0; then < SEARCHES.size(); then++) {
                TinDucks x = made.get();
                SEARCHES.get(first).applyAsLong(x);
                long alone = SEARCHES.get(then).applyAsLong(made.get());
                due.is("call " + then + " behind call " + first, SEARCHES.get(then).applyAsLong(x), alone);
            }
        }
    }

    private static void eachByItself() {
        due.sentence("plans: by what is told alone, whatever was asked ahead");
        eachBehindEach(EdgePlansTest::searched);
        eachBehindEach(EdgePlansTest::dented);
        due.is("none brings any: EASY is not 0", dented().easy(), 1);
        due.is("none brings any: AIM", dented().aim(0, 1), 0);
        due.is("none brings any: FIRE", dented().fire(1, 1), 0);
        due.is("none brings any: MEND", dented().mend(1), 0);
        TinDucks x = searched();
        // the first brings 1, the second is put aside by the draught, the third goes through gum: 4 and 2
        int[] got = {x.aim(0, 0), x.aim(0, 1), x.fire(0, 0), x.fire(0, 1), x.mend(0), x.mend(1)};
        int[] want = {3, 13, 0, 7, 2, 7};
        for (int i = 0; i < want.length; i++) {
            due.is("plan " + i, got[i], want[i]);
        }
    }

    /** Eleven of tin on CHAIN 1, and a twelfth. */
    private static TinDucks twelve(String twelfth, String shots) {
        return Told.still("1at1;1bt1;1ct1;1dt1;1et1;1ft1;1gt1;1ht1;1it1;1jt1;1kt1;" + twelfth, shots);
    }

    private static void twelfthOfLead() {
        due.sentence("DUCKS, 12 at most: the twelfth, of lead, wherever something is in place of what is told");
        due.is("AIM brings", twelve("0ah9", "a00").aim(0, 1), 0);
        due.is("FIRE brings", twelve("0ah9", "a00").fire(0, 1), 0);
        due.is("MEND brings", twelve("0ah9", "a00").mend(1), 0);
        due.is("SPARE: both HIT", twelve("0ah9", "a00;b00").spare(TinDucks.NONE), 0);
        due.is("CHANCE of the second", twelve("0ah9", "a00;b00").chance(5, 1, 0), 1);
        due.is("ASK: it is never DOWN", twelve("0ah9", "f00").ask(), 0);
        TinDucks x = twelve("0ah9", "a00");
        x.event(0, 0, 0);
        x.seen(23, 11, 0);
        due.is("NEVER", x.might(0), 1);
        due.is("PULLS", x.might(1), 31);
        due.is("KIND of the first", x.kind(0), 7);
        due.is("KIND of the twelfth", x.kind(11), 2);
        int dents = 0;
        for (int seed = 0; seed < 200; seed++) {
            int score = x.fairs(seed, 1, 0);
            dents += score == 0 ? x.fairs(seed, 1, 1) : 0;
            due.holds("FAIRS by " + seed + ": what dents brings nothing", score != 9);
        }
        due.holds("FAIRS: some dent", dents > 0);
    }

    private static void twelfthOfGum() {
        due.sentence("DUCKS, 12 at most: the twelfth, of gum, wherever something is in place of what is told");
        due.is("AIM brings", twelve("0ag9", "a05").aim(0, 1), 10);
        due.is("FIRE brings", twelve("0ag9", "a00").fire(0, 1), 10);
        due.is("MEND brings", twelve("0ag9", "a00").mend(1), 10);
        due.is("SPARE: nothing is left above", twelve("0ag9", "a00;b10").spare(TinDucks.NONE), TinDucks.NONE);
        due.is("CHANCE of the second", twelve("0ag9", "a00;b10").chance(5, 1, 0), 0);
        TinDucks x = twelve("0ag9", "a00");
        x.event(0, 0, 0);
        x.seen(23, 0, 1);
        due.is("NEVER", x.might(0), 1);
        due.is("PULLS", x.might(1), 4);
        due.is("KIND of the first", x.kind(0), 5);
        due.is("KIND of the twelfth", x.kind(11), 4);
    }

    private static void spareIs(String call, TinDucks x, int many, int first, int second) {
        due.is(call + ": spare(NONE)", x.spare(TinDucks.NONE), many);
        due.is(call + ": spare(0)", x.spare(0), first);
        due.is(call + ": spare(1)", x.spare(1), second);
    }

    /** A still duck, shots that hit it but for draughts in their ticks, events of these kinds and ticks. */
    private static TinDucks draughty(String shots, int... kindsAndTicks) {
        TinDucks x = Told.still("0ah1;1ah1;2ah1", shots);
        for (int i = 0; i < kindsAndTicks.length; i += 2) {
            x.event(kindsAndTicks[i], kindsAndTicks[i + 1], 11);
        }
        return x;
    }

    private static void spareNone() {
        due.sentence("so that no SHOT MISSES; NONE");
        spareIs("no SHOTS", draughty("", 1, 0), 0, -1, -1);
        spareIs("none MISSES", draughty("a00", 1, 1), 0, -1, -1);
        spareIs("no EVENTS, one MISSES", draughty("a05"), -1, -1, -1);
        spareIs("one MISSES whatever is not", draughty("a00;a05", 1, 0), -1, -1, -1);
        spareIs("three too many", draughty("a00", 1, 0, 1, 0, 1, 0), -1, -1, -1);
        spareIs("eight too many", draughty("a00", 1, 0, 1, 0, 1, 0, 1, 0, 1, 0, 1, 0, 1, 0, 1, 0), -1, -1, -1);
        spareIs("one that comes too late", draughty("a00;x00", 1, 0), 1, 0, -1);
        TinDucks x = draughty("a00;x00", 1, 0);
        x.rifle(1, 1);
        spareIs("one that comes too late", x, -1, -1, -1);
    }

    private static void spareFewest() {
        due.sentence("the fewest EVENTS (0 to 2)");
        spareIs("one, the first", draughty("a00", 1, 0, 0, 0), 1, 0, -1);
        spareIs("one, the last of 8", draughty("h00", 1, 0, 1, 1, 1, 2, 1, 3, 1, 4, 1, 5, 1, 6, 1, 7), 1, 7, -1);
        spareIs("two, the first", draughty("a00;b10", 1, 0, 1, 1), 2, 0, 1);
        spareIs("two, the last of 8", draughty("g00;h10", 1, 0, 1, 1, 1, 2, 1, 3, 1, 4, 1, 5, 1, 6, 1, 7), 2, 6, 7);
        spareIs("two, the first and the last", draughty("a00;h10", 1, 0, 1, 1, 1, 2, 1, 3, 1, 4, 1, 5, 1, 6, 1, 7), 2, 0, 7);
        spareIs("two of one TICK", draughty("c00", 0, 0, 1, 2, 0, 1, 1, 2), 2, 1, 3);
        spareIs("three", draughty("a00;b10;c20", 1, 0, 1, 1, 1, 2), -1, -1, -1);
    }

    private static void spareLeastRow() {
        due.sentence("of like ones the least row (each more than the one ahead)");
        TinDucks x = Told.of("r1", "0at1", "b01");
        x.rifle(1, 0);
        x.event(1, 7, 0);
        x.event(0, 0, 0);
        x.event(0, 1, 0);
        spareIs("one of two", x, 1, 1, -1);
        int[] later = {0, 3, 0}, higher = {0, 0, 1}, lower = {0, 0, 0}, draught = {1, 2, 0};
        spareIs("0 and 3 ahead of 1 and 2", inTwoWays(later, higher, lower, draught), 2, 0, 3);
        spareIs("0 and 1 ahead of 2 and 3", inTwoWays(higher, lower, later, draught), 2, 0, 1);
        spareIs("a DRAUGHT twice: one row is left", inTwoWays(draught, draught, later, higher, lower), 2, 3, 4);
    }

    /** None misses but without the later jerk and the draught, or without the higher and the lower jerk. */
    private static TinDucks inTwoWays(int[]... events) {
        TinDucks x = Told.of("r1;r1", "0ah1;1at1", "c02;e04;c12");
        x.rifle(1, 0);
        for (int[] e : events) {
            x.event(e[0], e[1], e[2]);
        }
        return x;
    }

    private static void spareTheIth() {
        due.sentence("how many (i = NONE), the i-th (0, 1; NONE); NONE. BAD");
        TinDucks x = draughty("a00", 1, 0);
        due.is("there is no second", x.spare(1), TinDucks.NONE);
        int[] bad = {-2, 2, 8, Told.LEAST, Told.GREATEST};
        for (int i : bad) {
            due.is("spare(" + i + ")", x.spare(i), TinDucks.BAD);
        }
        due.is("of a new object too", new TinDucks().spare(2), TinDucks.BAD);
    }

    private static void noSuchShot() {
        due.sentence("which (what = 0), how much (1). BAD");
        TinDucks x = Told.full();
        due.is("aim of the twelfth", x.aim(11, 0), 0);
        int[][] bad = {{12, 0}, {-1, 0}, {11, 2}, {11, -1}, {12, 1}, {Told.LEAST, 0}, {Told.GREATEST, 0}};
        for (int[] b : bad) {
            due.is("aim(" + b[0] + ", " + b[1] + ")", x.aim(b[0], b[1]), TinDucks.BAD);
            due.is("fire(" + b[0] + ", " + b[1] + ")", x.fire(b[0], b[1]), TinDucks.BAD);
        }
        x.undo(2);
        due.is("of SHOTS with a FAULT", x.aim(0, 0), TinDucks.BAD);
        due.is("of SHOTS with a FAULT", x.fire(0, 0), TinDucks.BAD);
    }
}
