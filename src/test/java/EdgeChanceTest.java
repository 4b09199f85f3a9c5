import java.math.BigInteger;

/** Promises 30 and 31: each sentence on chances and fairs that names a boundary case, by itself. */
public final class EdgeChanceTest {
    private static final Due due = new Due();

    public static void main(String[] args) {
        sixteenths();
        neverAndAlways();
        lowestTerms();
        byItself();
        hitsAny();
        noEvents();
        refusedChance();
        severalShots();
        lots();
        seedsThatWrap();
        upperBits();
        inPlaceOfThoseTold();
        noneToTwelve();
        refusedFairs();
        changeNothing();
        due.end();
    }

    private static void chanceIs(String what, TinDucks x, int c, int shot, long above, long below) {
        due.is(what + ", c = " + c + ", above", x.chance(c, shot, 0), above);
        due.is(what + ", c = " + c + ", below", x.chance(c, shot, 1), below);
    }

    /** A still duck that shots hit, but for draughts in tick 0. */
    private static TinDucks draughts(int many) {
        TinDucks x = Told.still("0at1", "a00;a01;b05");
        for (int i = 0; i < many; i++) {
            x.event(1, 0, i);
        }
        return x;
    }

    private static void sixteenths() {
        due.sentence("each of EVENTS is by c sixteenths (0 to 16)");
        for (int c = 0; c <= 16; c++) {
            int common = Integer.lowestOneBit(16 | c);
            chanceIs("without a DRAUGHT", draughts(1), c, 0, (16 - c) / common, 16 / common);
        }
        TinDucks x = draughts(1);
        due.is("c = -1", x.chance(-1, 0, 0), Told.LEAST_LONG_BAD);
        due.is("c = 17", x.chance(17, 0, 0), Told.LEAST_LONG_BAD);
    }

    private static void neverAndAlways() {
        due.sentence("c = 0: no EVENT is; c = 16: each is");
        for (int many = 0; many <= 8; many++) {
            TinDucks x = draughts(many);
            chanceIs(many + " DRAUGHTS", x, 0, 0, 1, 1);
            chanceIs(many + " DRAUGHTS", x, 16, 0, many == 0 ? 1 : 0, 1);
        }
    }

    private static void lowestTerms() {
        due.sentence("FRACTIONS are told in lowest terms, above and below (0 by 1)");
        TinDucks x = draughts(8);
        BigInteger all = BigInteger.valueOf(16).pow(8);
        for (int c = 0; c <= 16; c++) {
            BigInteger above = BigInteger.valueOf(16 - c).pow(8);
            BigInteger common = above.gcd(all);
            chanceIs("8 DRAUGHTS", x, c, 0, above.divide(common).longValueExact(), all.divide(common).longValueExact());
            chanceIs("one that never HITS", x, c, 2, 0, 1);
        }
        chanceIs("more than an int holds", x, 1, 0, 2562890625L, 4294967296L);
        Told.text(x, 1, "0at1;0bt1");
        for (int c = 0; c <= 16; c++) {
            chanceIs("one that always HITS", x, c, 0, 1, 1);
        }
    }

    private static void byItself() {
        due.sentence("by itself");
        TinDucks x = draughts(2);
        chanceIs("neither of two", x, 4, 0, 9, 16);
        Told.text(x, 1, "0bt1");
        chanceIs("one of two at least", x, 4, 0, 7, 16);
        // of two jerks just one
        x = Told.of("r1", "0at1", "b01");
        x.rifle(1, 0);
        x.event(0, 0, 0);
        x.event(0, 1, 0);
        chanceIs("just one of two", x, 4, 0, 3, 8);
        chanceIs("just one of two", x, 16, 0, 0, 1);
    }

    private static void hitsAny() {
        due.sentence("the chance that a SHOT HITS any");
        TinDucks x = Told.still("0ah1;0bt9", "a00;a00");
        x.event(1, 0, 0);
        chanceIs("one or the other, DENTED or DOWN", x, 5, 0, 1, 1);
        chanceIs("the second, where tin is DOWN by the first", x, 5, 1, 11, 16);
    }

    private static void noEvents() {
        due.sentence("no EVENTS: as told");
        for (int c = 0; c <= 16; c++) {
            chanceIs("one that HITS", draughts(0), c, 0, 1, 1);
            chanceIs("one that MISSES", draughts(0), c, 1, 0, 1);
        }
        TinDucks x = Told.of("r0", "0at1", "x00");
        x.event(1, 3, 0);
        chanceIs("one that comes too late", x, 8, 0, 0, 1);
    }

    private static void refusedChance() {
        due.sentence("Where the answer is a long, a refusal -x is the least long and x more");
        TinDucks x = Told.full();
        int[][] bad = {{-1, 0, 0}, {17, 0, 0}, {0, -1, 0}, {0, 12, 0}, {0, 0, -1}, {0, 0, 2}, {Told.LEAST, 0, 0},
            {Told.GREATEST, 0, 0}, {0, Told.LEAST, 0}, {0, Told.GREATEST, 0}, {0, 0, Told.LEAST}, {0, 0, Told.GREATEST}};
        for (int[] b : bad) {
            String call = "chance(" + b[0] + ", " + b[1] + ", " + b[2] + ")";
            due.is(call, x.chance(b[0], b[1], b[2]), -9223372036854775806L);
        }
        due.is("of no SHOTS", new TinDucks().chance(8, 0, 0), -9223372036854775806L);
        due.is("the twelfth, the most sixteenths, below", x.chance(16, 11, 1), 1);
    }

    private static void severalShots() {
        due.sentence("a SHOT: of the first as of the twelfth");
        TinDucks x = Told.still("0bt1", "b00;b00;b00;b00;b00;b00;b00;b00;b00;b00;b00;a00");
        x.event(1, 0, 0);
        x.event(2, 1, 0);
        x.event(1, 1, 0);
        chanceIs("the twelfth, by a DRAUGHT", x, 3, 11, 3, 16);
        // by a draught in tick 1, and by none in tick 0 or by the duck set up
        chanceIs("the first", x, 8, 0, 3, 8);
        chanceIs("the second", x, 8, 1, 0, 1);
    }

    /** What a LOT is, in numbers that do not wrap. */
    private static int[] lotsOf(int seed, int many) {
        BigInteger all = BigInteger.ONE.shiftLeft(32);
        BigInteger now = BigInteger.valueOf(seed).mod(all);
        int[] of = {24, 3, 6};
        int[] lots = new int[many];
        for (int i = 0; i < many; i++) {
            now = now.multiply(BigInteger.valueOf(1103515245)).add(BigInteger.valueOf(12345)).mod(all);
            lots[i] = now.shiftRight(16).mod(BigInteger.valueOf(of[i % 3])).intValue();
        }
        return lots;
    }

    /** Whether one SHOT by a SEED HITS the DUCK of its CHAIN, where DUCKS begin in PLACE 0 and CHAINS go by 1. */
    private static void oneShotIs(int seed) {
        TinDucks x = Told.of("", "0at1;1at2;2at4", "");
        int[] lots = lotsOf(seed, 3);
        int comes = lots[0] + 1;
        boolean hit = comes <= 23 && (comes + 1) % 12 == lots[2];
        due.is("fairs(" + seed + ", 1, 0)", x.fairs(seed, 1, 0), hit ? 1 << lots[1] : 0);
        due.is("fairs(" + seed + ", 1, 1)", x.fairs(seed, 1, 1), hit ? 1 : 0);
    }

    private static void lots() {
        due.sentence("of each a LOT of 24 (its TICK), a LOT of 3 (its CHAIN), a LOT of 6 (its COLUMN)");
        for (int seed = 0; seed < 500; seed++) {
            oneShotIs(seed);
        }
    }

    private static void seedsThatWrap() {
        due.sentence("as ints that wrap");
        int[] ends = {Told.LEAST, Told.LEAST + 1, -1, -2, -12345, 65535, 65536, -65536, Told.GREATEST - 1, Told.GREATEST};
        for (int seed : ends) {
            oneShotIs(seed);
        }
        for (int seed = 1; seed < 500; seed++) {
            oneShotIs(seed * 8589935);
            oneShotIs(-seed * 8589935);
        }
    }

    private static void upperBits() {
        due.sentence("its upper 16 bits as a number from 0 on, modulo m");
        int found = 0;
        for (int seed = 0; found < 40 && seed < 100000; seed++) {
            int first = 1103515245 * seed + 12345;
            int second = 1103515245 * first + 12345;
            int third = 1103515245 * second + 12345;
            // lots that would be below 0, were the upper bits not a number from 0 on
            boolean hits = (lotsOf(seed, 3)[0] + 2) % 12 == lotsOf(seed, 3)[2] && lotsOf(seed, 3)[0] < 23;
            if (first < 0 && second < 0 && third < 0 && hits) {
                found++;
                oneShotIs(seed);
            }
        }
        due.is("such seeds", found, 40);
    }

    private static void inPlaceOfThoseTold() {
        due.sentence("n SHOTS, in place of those told");
        TinDucks x = Told.still(Told.ROUND_OF_TIN, "a00;a01;a02");
        due.is("none in place of three: SCORE", x.fairs(5, 0, 0), 0);
        due.is("none in place of three: HITS", x.fairs(5, 0, 1), 0);
        int many = x.fairs(5, 12, 1);
        Told.text(x, 2, "");
        due.is("whether any were told or not", x.fairs(5, 12, 1), many);
        // by a pull to the right and a draught in each tick that lots tell, as by the pull alone one more to the right
        int[] lots = lotsOf(77, 3);
        for (int pull = 0; pull <= 3; pull++) {
            x.rifle(0, pull + 1);
            int want = x.fairs(77, 1, 0);
            x.rifle(0, pull);
            x.event(1, lots[0], 0);
            due.is("by PULL, FLIGHT and EVENTS as told", x.fairs(77, 1, 0), want);
            x.back();
        }
    }

    private static void noneToTwelve() {
        due.sentence("n SHOTS (0 to 12)");
        for (int n = 0; n <= 12; n++) {
            TinDucks x = Told.still("0at1;0bt1;0ct1;0dt1;0et1;0ft1;1at1;1bt1;1ct1;1dt1;1et1;1ft1", "");
            int[] lots = lotsOf(2024, 3 * n);
            boolean[] down = new boolean[18];
            int hits = 0;
            for (int i = 0; i < n; i++) {
                int at = lots[3 * i + 1] * 6 + lots[3 * i + 2];
                hits += at < 12 && !down[at] ? 1 : 0;
                down[at] = true;
            }
            due.is("fairs(2024, " + n + ", 1)", x.fairs(2024, n, 1), hits);
            due.is("fairs(2024, " + n + ", 0)", x.fairs(2024, n, 0), hits);
        }
    }

    private static void refusedFairs() {
        due.sentence("FAIRS: SCORE (what = 0), HITS (1). BAD");
        TinDucks x = Told.full();
        int[][] bad = {{-1, 0}, {13, 0}, {12, -1}, {12, 2}, {Told.LEAST, 0}, {Told.GREATEST, 0}, {0, Told.LEAST}, {0, Told.GREATEST}};
        for (int[] b : bad) {
            due.is("fairs(7, " + b[0] + ", " + b[1] + ")", x.fairs(7, b[0], b[1]), TinDucks.BAD);
        }
        due.is("no DUCKS", new TinDucks().fairs(7, 12, 1), 0);
    }

    private static void changeNothing() {
        due.sentence("chances and fairs change nothing");
        due.holds("chance, fairs", Whole.isUnchangedBy(Told::full, x -> {
            x.chance(5, 11, 0);
            x.fairs(7, 12, 0);
        }));
    }
}
