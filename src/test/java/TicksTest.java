/** Promises 13 to 20: at, sees, down, hits, sum, run, easy, safe. */
public final class TicksTest {
    private static final Due due = new Due();

    public static void main(String[] args) {
        places();
        kinds();
        outOfSight();
        shotsThatMiss();
        inOneTick();
        gum();
        runs();
        easiest();
        inTheLastTick();
        retold();
        refusals();
        due.end();
    }

    private static void places() {
        TinDucks x = Told.of("r1;l2;r0", "0at3;1bh4;2cg5;0lt1", "");
        for (int t = 0; t < 24; t++) {
            due.is("rightward by 1, behind " + t, x.at(t, 0, 0), (t + 1) % 12);
            due.is("leftward by 2, behind " + t, x.at(t, 1, 0), (1 + 48 - 2 * (t + 1)) % 12);
            due.is("by 0, behind " + t, x.at(t, 2, 0), 2);
            due.is("over the end, behind " + t, x.at(t, 3, 0), t % 12);
            due.is("sees the first", x.sees(t, 0, (t + 1) % 12), 0);
            due.is("sees the last", x.sees(t, 0, t % 12), 3);
            due.is("sees none", x.sees(t, 0, (t + 2) % 12), TinDucks.NONE);
            due.is("sees on another chain", x.sees(t, 2, 2), 2);
        }
    }

    private static void kinds() {
        TinDucks x = Told.of("r0;r0;r0", "0at3;0bh5;0cg7;1ch2;2cg1", "a01;b01;b01;c02;d12;e22;x00");
        x.rifle(1, 0);
        int[][] hits = {{0, 1, 0}, {1, 1, 5}, {1, -1, 0}, {2, 2, 7}, {3, 3, 2}, {4, 4, 1}, {23, 0, 3}};
        for (int shot = 0; shot < 7; shot++) {
            for (int what = 0; what < 3; what++) {
                due.is("hits(" + shot + ", " + what + ")", x.hits(shot, what), hits[shot][what]);
            }
        }
        due.is("lead is DENTED", x.at(0, 1, 1), 1);
        due.is("HIT once", x.at(0, 1, 2), 1);
        due.is("lead is DOWN", x.at(1, 1, 1), 2);
        due.is("HIT twice, not by the third", x.at(1, 1, 2), 2);
        due.is("gum stands", x.at(1, 2, 1), 0);
        due.is("gum is DOWN", x.at(2, 2, 1), 2);
        due.is("lead above it is DENTED", x.at(2, 3, 1), 1);
        due.is("what is above lead is not HIT", x.at(2, 4, 2), 0);
        due.is("tin stands", x.at(22, 0, 1), 0);
        due.is("tin is DOWN", x.at(23, 0, 1), 2);
        int[] down = {0, 1, 2, 3, 4, 4};
        for (int t = 0; t < 6; t++) {
            due.is("down(" + t + ")", x.down(t), down[t]);
        }
        due.is("down(23)", x.down(23), 5);
        due.is("a DUCK that is DOWN is seen", x.sees(23, 0, 0), 0);
        due.is("SCORE", x.sum(0), 18);
        due.is("HITS", x.sum(1), 6);
        due.is("MISSES", x.sum(2), 1);
        due.is("RUN", x.run(0), 4);
        due.is("RUN's first", x.run(1), 3);
        due.is("EASY", x.easy(), 1);
        due.is("SAFE", x.safe(), 0);
    }

    private static void outOfSight() {
        TinDucks x = Told.of("r1;l1", "0dh1;1bt2", "a04;b05;a10");
        x.rifle(1, 0);
        due.is("DENTED", x.at(0, 0, 1), 1);
        due.is("DOWN in the last column", x.at(1, 0, 1), 2);
        due.is("out of sight it stands", x.at(2, 0, 1), 0);
        due.is("and was HIT as often", x.at(2, 0, 2), 2);
        due.is("DOWN in the first column", x.at(0, 1, 1), 2);
        due.is("leftward out of sight", x.at(1, 1, 1), 0);
        Told.text(x, 2, "b05;n05");
        due.is("DENTED in the last column", x.at(1, 0, 1), 1);
        due.is("stands", x.at(2, 0, 1), 0);
        due.is("comes round and is DENTED only", x.at(13, 0, 1), 1);
        x.event(2, 1, 0);
        Told.text(x, 2, "a04;b05");
        due.is("DENTED, SET, DENTED again", x.at(1, 0, 1), 1);
        due.is("HIT twice", x.at(1, 0, 2), 2);
        due.is("brings nothing", x.sum(0), 0);
        Told.text(x, 0, "r0");
        Told.text(x, 1, "0gt1;0ft9");
        Told.text(x, 2, "a05");
        x.rifle(0, 3);
        due.is("a PLACE out of sight is not HIT", x.hits(0, 1), TinDucks.NONE);
        x.rifle(0, 2);
        due.is("the last COLUMN is", x.hits(0, 1), 1);
        Told.text(x, 1, "0lt1;0at9");
        Told.text(x, 2, "a00");
        x.rifle(0, 1);
        due.is("nor one ahead of the first COLUMN", x.hits(0, 1), TinDucks.NONE);
        x.rifle(0, 2);
        due.is("the first COLUMN is", x.hits(0, 1), 1);
    }

    private static void shotsThatMiss() {
        TinDucks x = Told.of("r0", "0at4", "x00;w00;u00");
        due.is("behind TICK 23", x.hits(0, 0), TinDucks.NONE);
        due.is("it MISSES", x.hits(0, 1), TinDucks.NONE);
        due.is("in TICK 23", x.hits(1, 0), 23);
        due.is("in TICK 21", x.hits(2, 0), 21);
        due.is("the earlier HITS", x.hits(2, 1), 0);
        due.is("the later MISSES", x.hits(1, 1), TinDucks.NONE);
        due.is("MISSES", x.sum(2), 2);
        x.rifle(1, 3);
        due.is("FLIGHT 3", x.hits(2, 0), 23);
        due.is("behind TICK 23", x.hits(1, 0), TinDucks.NONE);
    }

    private static void inOneTick() {
        TinDucks x = Told.of("r0", "0at4;0bh6", "c01;a00;c01;a00;c01");
        due.is("as told: the first", x.hits(1, 1), 0);
        due.is("as told: the second", x.hits(3, 1), TinDucks.NONE);
        due.is("it dents", x.hits(0, 2), 0);
        due.is("it brings", x.hits(2, 2), 6);
        due.is("it MISSES", x.hits(4, 1), TinDucks.NONE);
    }

    private static void gum() {
        TinDucks x = Told.of("r0;r0;r0", "0ag1;1ag2;2ag4;0bg8;2bt9;1ct3;0cg5", "a00;a01;a02");
        due.is("from gum to gum to gum", x.hits(0, 2), 7);
        due.is("its own is the first", x.hits(0, 1), 0);
        due.is("over a gap it does not go on", x.hits(1, 2), 8);
        due.is("gum, tin", x.hits(2, 2), 8);
        due.is("HIT above", x.at(1, 2, 2), 1);
        due.is("SAFE", x.safe(), 1 << 4);
        Told.text(x, 2, "a10;a00");
        due.is("from the middle", x.hits(0, 2), 6);
        due.is("its own", x.hits(0, 1), 1);
        due.is("above it is DOWN", x.hits(1, 2), 1);
        due.is("HITS", x.sum(1), 2);
    }

    private static void runs() {
        TinDucks x = Told.of("r0", "0at1;0bt1;0ct1;0dt1", "a00;a01;a05;a02;a03;a05");
        due.is("of like ones the first", x.run(0), 2);
        due.is("its first", x.run(1), 0);
        Told.text(x, 2, "a05;a01;a05;a02;a03;a00");
        due.is("at the end", x.run(0), 3);
        due.is("its first", x.run(1), 3);
        Told.text(x, 2, "a05");
        due.is("none", x.run(0), 0);
        due.is("no first", x.run(1), TinDucks.NONE);
        Told.text(x, 2, "d03;c02;b01;a00");
        due.is("as told, not as they come", x.run(0), 4);
    }

    private static void easiest() {
        TinDucks x = Told.of("r0", "0at1;0bh1;0ch1;0dt1", "a02;a01");
        due.is("of like ones the least", x.easy(), 1);
        due.is("SAFE", x.safe(), 9);
        Told.text(x, 2, "a02;a01;b02");
        due.is("the most", x.easy(), 2);
        Told.text(x, 2, "a05");
        due.is("none ever", x.easy(), TinDucks.NONE);
        due.is("all SAFE", x.safe(), 15);
    }

    private static void inTheLastTick() {
        TinDucks x = Told.of("r0", "0at2;0bh3;0ch4", "x00;w01;w02");
        x.rifle(1, 0);
        due.is("DOWN behind 23", x.count(6), 1);
        due.is("down(23)", x.down(23), 1);
        due.is("down(22)", x.down(22), 0);
        due.is("both are DENTED", x.at(23, 1, 1), 1);
        due.is("both are DENTED", x.at(23, 2, 1), 1);
        due.is("none is SAFE", x.safe(), 0);
        Told.text(x, 2, "x00");
        due.is("EASY", x.easy(), 0);
        due.is("SAFE", x.safe(), 6);
    }

    private static void retold() {
        TinDucks x = Told.of("r0", "0gt1;0ht2", "a00;b01");
        due.is("out of sight", x.down(5), 0);
        Told.text(x, 1, "0at1;0bt2");
        due.is("where those were that are told no more", x.sees(0, 0, 6), TinDucks.NONE);
        due.is("DOWN in sight", x.down(5), 2);
        Told.text(x, 0, "r1");
        Told.text(x, 1, "0et1;0dt2");
        Told.text(x, 2, "a05;a04");
        x.rifle(1, 0);
        due.is("both DOWN", x.down(0), 2);
        due.is("one is out of sight", x.down(1), 1);
        due.is("both are", x.down(2), 0);
        Told.text(x, 1, "0dt1;0et2");
        due.is("as told the other way: one is out of sight", x.down(1), 1);
        due.is("both are", x.down(2), 0);
        Told.text(x, 1, "0gt1");
        Told.text(x, 2, "k05");
        due.is("DOWN", x.down(10), 1);
        due.is("out of sight where it was at first", x.down(11), 0);
        Told.text(x, 1, "0et1;0dt2");
        Told.text(x, 2, "a05;a04");
        x.event(2, 0, 1);
        x.event(2, 1, 0);
        x.event(2, 1, 1);
        due.is("SET in one TICK", x.down(1), 0);
    }

    private static void refusals() {
        TinDucks x = Told.of("", "0at1", "a00");
        int[][] badAt = {{-1, 0, 0}, {24, 0, 0}, {0, -1, 0}, {0, 1, 0}, {0, 0, -1}, {0, 0, 3}};
        for (int[] b : badAt) {
            due.is("at(" + b[0] + ", " + b[1] + ", " + b[2] + ")", x.at(b[0], b[1], b[2]), TinDucks.BAD);
        }
        int[][] badSees = {{-1, 0, 0}, {24, 0, 0}, {0, -1, 0}, {0, 3, 0}, {0, 0, -1}, {0, 0, 12}};
        for (int[] b : badSees) {
            due.is("sees(" + b[0] + ", " + b[1] + ", " + b[2] + ")", x.sees(b[0], b[1], b[2]), TinDucks.BAD);
        }
        int[][] badHits = {{-1, 0}, {1, 0}, {0, -1}, {0, 3}};
        for (int[] b : badHits) {
            due.is("hits(" + b[0] + ", " + b[1] + ")", x.hits(b[0], b[1]), TinDucks.BAD);
        }
        due.is("down(-1)", x.down(-1), TinDucks.BAD);
        due.is("down(24)", x.down(24), TinDucks.BAD);
        due.is("sum(-1)", x.sum(-1), TinDucks.BAD);
        due.is("sum(3)", x.sum(3), TinDucks.BAD);
        due.is("run(-1)", x.run(-1), TinDucks.BAD);
        due.is("run(2)", x.run(2), TinDucks.BAD);
    }
}
