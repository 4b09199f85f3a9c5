import java.util.HashSet;
import java.util.Set;

/** Promises 30 and 31: chance, fairs. */
public final class ChanceAndFairsTest {
    private static final Due due = new Due();

    public static void main(String[] args) {
        oneEvent();
        moreEvents();
        refusals();
        fairs();
        due.end();
    }

    private static void chanceIs(TinDucks x, int c, long above, long below) {
        due.is("chance(" + c + ", 0, 0)", x.chance(c, 0, 0), above);
        due.is("chance(" + c + ", 0, 1)", x.chance(c, 0, 1), below);
    }

    private static void oneEvent() {
        TinDucks x = Told.of("r0", "0at1", "a00;a05");
        x.rifle(1, 0);
        chanceIs(x, 7, 1, 1);
        due.is("never: above", x.chance(7, 1, 0), 0);
        due.is("never: below", x.chance(7, 1, 1), 1);
        x.event(1, 0, 0);
        chanceIs(x, 0, 1, 1);
        chanceIs(x, 4, 3, 4);
        chanceIs(x, 5, 11, 16);
        chanceIs(x, 8, 1, 2);
        chanceIs(x, 16, 0, 1);
        due.is("never: above", x.chance(5, 1, 0), 0);
        due.is("never: below", x.chance(5, 1, 1), 1);
        due.is("nothing is changed", x.hits(0, 1), TinDucks.NONE);
    }

    private static void moreEvents() {
        TinDucks x = Told.of("r0", "0at1", "a00");
        x.rifle(1, 0);
        for (int i = 0; i < 8; i++) {
            x.event(1, 0, i);
        }
        chanceIs(x, 15, 1, 4294967296L);
        chanceIs(x, 1, 2562890625L, 4294967296L);
        chanceIs(x, 8, 1, 256);
        chanceIs(x, 0, 1, 1);
        chanceIs(x, 16, 0, 1);
        Told.text(x, 2, "b05;a00;a01;b00");
        due.is("another of many SHOTS", x.chance(15, 1, 0), 1);
        due.is("another of many SHOTS", x.chance(15, 1, 1), 4294967296L);
        due.is("one that HITS never", x.chance(15, 2, 0), 0);
        due.is("one ahead of which it is DOWN", x.chance(15, 3, 0), 4294967295L);
        Told.text(x, 2, "a05;a05;a05;a05;a05;a05;a05;a05;a05;a05;a05;a00");
        due.is("the last of 12 SHOTS", x.chance(15, 11, 1), 4294967296L);
        Told.text(x, 1, "0bt1");
        due.is("the last of 12 SHOTS, by any DRAUGHT", x.chance(15, 11, 0), 4294967295L);
        due.is("by all of them", x.chance(16, 11, 0), 1);
        Told.text(x, 1, "0at1");
        Told.text(x, 2, "a00");
        x.back();
        chanceIs(x, 8, 1, 128);

        // by both jerks or by none of them it hits another, or itself
        x = Told.of("r1", "0at1", "b01");
        x.rifle(1, 0);
        x.event(0, 0, 0);
        x.event(0, 1, 0);
        chanceIs(x, 4, 3, 8);
        chanceIs(x, 2, 7, 32);
        Told.text(x, 2, "b02");
        chanceIs(x, 4, 9, 16);
        Told.text(x, 2, "b00");
        chanceIs(x, 4, 1, 16);
        x.rifle(0, 3);
        chanceIs(x, 4, 3, 8);
    }

    private static void refusals() {
        TinDucks x = Told.of("", "0at1", "a00");
        int[][] bad = {{-1, 0, 0}, {17, 0, 0}, {0, -1, 0}, {0, 1, 0}, {0, 0, -1}, {0, 0, 2}};
        for (int[] b : bad) {
            due.is("chance(" + b[0] + ", " + b[1] + ", " + b[2] + ")", x.chance(b[0], b[1], b[2]), Told.LEAST_LONG_BAD);
        }
        int[][] badFairs = {{0, -1, 0}, {0, 13, 0}, {0, 0, -1}, {0, 0, 2}};
        for (int[] b : badFairs) {
            due.is("fairs(" + b[0] + ", " + b[1] + ", " + b[2] + ")", x.fairs(b[0], b[1], b[2]), TinDucks.BAD);
        }
    }

    /** Standing ducks of tin everywhere but above: a LOT hits where none was down, if it comes in time. */
    private static void fairs() {
        String ducks = "0at1;0bt2;0ct3;0dt4;0et5;0ft6;1at7;1bt8;1ct9;1dt1;1et2;1ft3";
        int[] worth = {1, 2, 3, 4, 5, 6, 7, 8, 9, 1, 2, 3};
        int[] seeds = {0, 1, -1, 7, 12345, Integer.MAX_VALUE, Integer.MIN_VALUE, 987654321};
        for (int flight = 0; flight <= 3; flight++) {
            TinDucks x = Told.of("r0;r0;r0", ducks, "a00");
            x.rifle(1, flight);
            for (int seed : seeds) {
                for (int n = 0; n <= 12; n++) {
                    int[] want = standingFair(seed, n, flight, worth);
                    due.is("fairs(" + seed + ", " + n + ", 0)", x.fairs(seed, n, 0), want[0]);
                    due.is("fairs(" + seed + ", " + n + ", 1)", x.fairs(seed, n, 1), want[1]);
                }
            }
            due.is("nothing is changed", x.count(1), 1);
        }
    }

    private static int[] standingFair(int start, int n, int flight, int[] worth) {
        long seed = start & 0xffffffffL;
        Set<Integer> down = new HashSet<>();
        int[] lots = new int[3];
        int[] of = {24, 3, 6};
        int score = 0;
        for (int i = 0; i < 3 * n; i++) {
            seed = (1103515245L * seed + 12345L) & 0xffffffffL;
            lots[i % 3] = (int) ((seed >> 16) % of[i % 3]);
            boolean comes = i % 3 == 2 && lots[0] + flight <= 23 && lots[1] <= 1;
            if (comes && down.add(lots[1] * 6 + lots[2])) {
                score += worth[lots[1] * 6 + lots[2]];
            }
        }
        return new int[] {score, down.size()};
    }
}
