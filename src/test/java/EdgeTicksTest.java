/** Promises 13 to 20, tick by tick: each sentence that names a boundary case, by itself. */
public final class EdgeTicksTest {
    private static final Due due = new Due();

    public static void main(String[] args) {
        ticks();
        columnsInSight();
        standAtFirst();
        goRound();
        outOfSightStands();
        outOfSightFromAnywhere();
        outOfSightOneByOne();
        backInSightStillStands();
        setAheadOfShots();
        asTold();
        oneDraught();
        draughtWhereItComes();
        columnInSight();
        downIsNotHit();
        behindTheLastTick();
        lead();
        gumGoesOn();
        aboveTheHighest();
        itsOwn();
        worthEachTime();
        howOftenHit();
        howManyDown();
        whoIsThere();
        noSuchThings();
        due.end();
    }

    private static void ticks() {
        due.sentence("TICKS are 0 to 23");
        TinDucks x = Told.of("r1", "0at1", "a00;w00");
        int[] good = {0, 23};
        for (int tick : good) {
            due.is("at(" + tick + ", 0, 0)", x.at(tick, 0, 0), (tick + 1) % 12);
            due.is("sees(" + tick + ", 0, its PLACE)", x.sees(tick, 0, (tick + 1) % 12), 0);
            due.is("down(" + tick + ")", x.down(tick), tick == 0 ? 0 : 1);
        }
        int[] bad = {-1, 24, Told.LEAST, Told.GREATEST};
        for (int tick : bad) {
            due.is("at(" + tick + ", 0, 0)", x.at(tick, 0, 0), TinDucks.BAD);
            due.is("sees(" + tick + ", 0, 0)", x.sees(tick, 0, 0), TinDucks.BAD);
            due.is("down(" + tick + ")", x.down(tick), TinDucks.BAD);
        }
    }

    private static void columnsInSight() {
        due.sentence("each of 12 PLACES (0 to 11), of which 0 to 5, the COLUMNS, are in sight");
        for (int place = 0; place <= 11; place++) {
            TinDucks x = Told.still("0" + (char) ('a' + place) + "t1", "a00;a01;a02;a03;a04;a05");
            due.is("PLACE " + place + ": DOWN", x.at(5, 0, 1), place <= 5 ? 2 : 0);
            due.is("PLACE " + place + ": HIT", x.at(5, 0, 2), place <= 5 ? 1 : 0);
        }
    }

    private static void standAtFirst() {
        due.sentence("All DUCKS stand at first");
        TinDucks x = Told.of("r0;l1;r1", Told.FULL_TEXTS[1], "b00");
        for (int duck = 0; duck < 12; duck++) {
            due.is("at(0, " + duck + ", 1)", x.at(0, duck, 1), 0);
            due.is("at(0, " + duck + ", 2)", x.at(0, duck, 2), 0);
        }
        x.rifle(1, 0);
        Told.text(x, 2, "a01");
        due.is("lead that stood is DENTED", x.at(0, 1, 1), 1);
    }

    private static void goRound() {
        due.sentence("rightward or leftward (behind PLACE 11 comes 0)");
        for (int chain = 0; chain < 3; chain++) {
            for (int way = -3; way <= 3; way++) {
                String one = (way < 0 ? "l" : "r") + Math.abs(way);
                for (int place = 0; place <= 11; place++) {
                    TinDucks x = Told.of(one + ";" + one + ";" + one, chain + "" + (char) ('a' + place) + "t1", "");
                    for (int tick = 0; tick <= 23; tick++) {
                        int at = Math.floorMod(place + (tick + 1) * way, 12);
                        due.is(one + " from " + place + " behind " + tick, x.at(tick, 0, 0), at);
                        due.is("sees it", x.sees(tick, chain, at), 0);
                    }
                }
            }
        }
        due.is("l0 goes nowhere", Told.of("l0", "0lt1", "").at(23, 0, 0), 11);
    }

    private static void outOfSightStands() {
        due.sentence("a DUCK that is not in sight then stands");
        char[] kinds = {'t', 'h', 'g'};
        for (int by = 1; by <= 3; by++) {
            for (char kind : kinds) {
                // in tick 0 it comes to the last column, in tick 1 behind it
                TinDucks x = Told.of("r" + by, "0" + (char) ('f' - by) + kind + "1", "a05");
                x.rifle(1, 0);
                due.is("in the last COLUMN, " + kind, x.at(0, 0, 1), kind == 'h' ? 1 : 2);
                due.is("rightward out of sight, " + kind, x.at(1, 0, 1), 0);
                due.is("HIT as often", x.at(1, 0, 2), 1);
                // in tick 0 it comes to the first column, in tick 1 ahead of it
                x = Told.of("l" + by, "0" + (char) ('a' + by) + kind + "1", "a00");
                x.rifle(1, 0);
                due.is("in the first COLUMN, " + kind, x.at(0, 0, 1), kind == 'h' ? 1 : 2);
                due.is("leftward out of sight, " + kind, x.at(1, 0, 1), 0);
                x.event(0, 1, 0);
                due.is("a CHAIN that JERKS: still in sight", x.at(1, 0, 1), kind == 'h' ? 1 : 2);
                due.is("then out of sight", x.at(2, 0, 1), 0);
            }
        }
        TinDucks x = Told.still("0ft1", "a05");
        due.is("one that stays in the last COLUMN is DOWN to the end", x.at(23, 0, 1), 2);
        x = Told.still("0at1", "a00");
        due.is("one that stays in the first COLUMN too", x.at(23, 0, 1), 2);
        x = Told.of("r1;r0", "0et1;1et1", "a05;a14");
        x.rifle(1, 0);
        due.is("no DUCK of another CHAIN", x.at(1, 1, 1), 2);
        due.is("but that one", x.at(1, 0, 1), 0);
    }

    private static void outOfSightFromAnywhere() {
        due.sentence("a DUCK that is not in sight then stands: wherever it was at first, whichever way it goes");
        for (int way = -3; way <= 3; way++) {
            for (int place = 0; place <= 11; place++) {
                for (int tick = 0; tick <= 23; tick++) {
                    int column = Math.floorMod(place + (tick + 1) * way, 12);
                    if (column <= 5) {
                        String chain = (way < 0 ? "l" : "r") + Math.abs(way);
                        downWhileInSight(chain, place, tick, column, way);
                    }
                }
            }
        }
    }

    private static void downWhileInSight(String chain, int place, int hit, int column, int way) {
        TinDucks x = Told.of(chain, "0" + (char) ('a' + place) + "t1", (char) ('a' + hit) + "0" + column);
        x.rifle(1, 0);
        int is = 0;
        for (int tick = 0; tick <= 23; tick++) {
            boolean inSight = Math.floorMod(place + (tick + 1) * way, 12) <= 5;
            is = tick == hit ? 2 : inSight ? is : 0;
            due.is(chain + " from " + place + ", HIT in " + hit + ", behind " + tick, x.at(tick, 0, 1), is);
        }
    }

    private static void outOfSightOneByOne() {
        due.sentence("a DUCK that is not in sight then stands: each of a CHAIN");
        String[] ducks = {"0at1;0bt1;0ct1;0dt1;0et1", "0et1;0dt1;0ct1;0bt1;0at1"};
        for (String told : ducks) {
            TinDucks x = Told.of("r1", told, "a01;a02;a03;a04;a05");
            x.rifle(1, 0);
            for (int tick = 0; tick <= 5; tick++) {
                due.is("those in sight are DOWN behind " + tick, x.down(tick), 5 - tick);
            }
            Told.text(x, 0, "l1");
            Told.text(x, 1, told.replace('e', 'f'));
            Told.text(x, 2, "a00;a01;a02;a04");
            due.is("told anew, leftward", x.down(0), 4);
            due.is("the first is out of sight", x.down(1), 3);
            Told.text(x, 0, "r0");
            Told.text(x, 1, "0gt1;0at1");
            Told.text(x, 2, "a00");
            due.is("told anew, still", x.down(23), 1);
            Told.text(x, 1, "0at1;0gt1");
            due.is("told the other way round", x.down(23), 1);
        }
    }

    private static void backInSightStillStands() {
        due.sentence("and come up again: what stood out of sight may be HIT anew");
        TinDucks x = Told.of("r3", "0ft4", "c02;g02;a00;b00");
        x.rifle(1, 0);
        // places behind ticks 0 to 6: 8, 11, 2, 5, 8, 11, 2
        due.is("DOWN", x.at(2, 0, 1), 2);
        due.is("DOWN in the last COLUMN", x.at(3, 0, 1), 2);
        due.is("stands", x.at(4, 0, 1), 0);
        due.is("comes up", x.at(5, 0, 1), 0);
        due.is("DOWN again", x.at(6, 0, 1), 2);
        due.is("SCORE", x.sum(0), 8);
    }

    private static void setAheadOfShots() {
        due.sentence("Then who is SET stands. Then SHOTS");
        TinDucks x = Told.still("0at3;0bh5", "a00;b00;a01;b01;c01");
        due.is("without: the second MISSES", x.hits(1, 1), TinDucks.NONE);
        x.event(2, 1, 0);
        due.is("SET: the second HITS", x.hits(1, 1), 0);
        due.is("and it is DOWN behind that TICK", x.at(1, 0, 1), 2);
        due.is("HIT twice", x.at(1, 0, 2), 2);
        x.event(2, 1, 1);
        due.is("lead: DENTED, SET, DENTED", x.at(1, 1, 1), 1);
        due.is("lead: then DOWN", x.at(2, 1, 1), 2);
        x.event(2, 23, 0);
        x.event(2, 23, 1);
        due.is("in TICK 22", x.down(22), 2);
        due.is("SET in TICK 23", x.down(23), 0);
        due.is("DENTED and SET", x.at(23, 1, 1), 0);
        x = Told.still("0at3", "a00");
        x.event(2, 0, 0);
        due.is("SET in TICK 0, ahead of the SHOT", x.at(0, 0, 1), 2);
        x.event(2, 5, 0);
        x.event(2, 5, 0);
        due.is("SET twice in a TICK", x.at(5, 0, 1), 0);
        due.is("and it was HIT as often", x.at(5, 0, 2), 1);
        // out of sight it stands all the same, set or not
        x = Told.of("r1", "0at1", "");
        x.event(2, 10, 0);
        due.is("SET out of sight", x.at(10, 0, 1), 0);
        String[] kinds = {"0et1", "0eh1", "0eg1"};
        for (String duck : kinds) {
            x = Told.of("r1", duck, "a05");
            x.rifle(1, 0);
            x.event(2, 1, 0);
            due.is(duck + ": HIT in the last COLUMN", x.at(0, 0, 1), duck.charAt(2) == 'h' ? 1 : 2);
            due.is(duck + ": SET in the TICK in which it goes out of sight", x.at(1, 0, 1), 0);
            due.is(duck + ": and behind that", x.at(2, 0, 1), 0);
        }
    }

    private static void asTold() {
        due.sentence("Then SHOTS that come in this TICK, as told");
        TinDucks x = Told.still("0ah9", "a00;a00;a00");
        due.is("the first dents", x.hits(0, 2), 0);
        due.is("the second brings", x.hits(1, 2), 9);
        due.is("the third MISSES", x.hits(2, 1), TinDucks.NONE);
        x = Told.still("0ag1;1at2;1bt4", "b00;a10;a00;a11;b11");
        due.is("told ahead of the one of gum", x.hits(1, 1), 1);
        due.is("from gum nothing is left above", x.hits(2, 2), 1);
        due.is("the one of TICK 0 is ahead of what is told ahead of it", x.hits(0, 1), TinDucks.NONE);
        due.is("in TICK 1 nothing is left", x.hits(4, 1), TinDucks.NONE);
        StringBuilder twelve = new StringBuilder();
        for (int shot = 0; shot < 12; shot++) {
            twelve.append(shot == 0 ? "" : ";").append("a0").append(shot / 2);
        }
        x = Told.still(Told.ROUND_OF_TIN, twelve.toString());
        for (int shot = 0; shot < 12; shot++) {
            due.is("twelve in a TICK: " + shot, x.hits(shot, 1), shot % 2 == 0 ? shot / 2 : TinDucks.NONE);
        }
    }

    private static void oneDraught() {
        due.sentence("by 1 COLUMN more to the right, if there is a DRAUGHT (one, however many)");
        TinDucks x = Told.still(Told.ROUND_OF_TIN, "a02");
        due.is("none", x.hits(0, 1), 2);
        for (int many = 1; many <= 8; many++) {
            x.event(1, 0, many);
            due.is(many + " of them", x.hits(0, 1), 3);
        }
    }

    private static void draughtWhereItComes() {
        due.sentence("SHOTS that come in this TICK: each by 1 COLUMN more");
        for (int flight = 0; flight <= 3; flight++) {
            for (int tick = 0; tick <= 23; tick++) {
                TinDucks x = Told.still(Told.ROUND_OF_TIN, "u02");
                x.rifle(1, flight);
                x.event(1, tick, 0);
                due.is("FLIGHT " + flight + ", a DRAUGHT in " + tick, x.hits(0, 1), tick == 20 + flight ? 3 : 2);
            }
        }
    }

    private static void columnInSight() {
        due.sentence("If the COLUMN to which it comes is in sight");
        for (int draught = 0; draught <= 1; draught++) {
            for (int column = 0; column <= 5; column++) {
                TinDucks x = Told.still(Told.ROUND_OF_TIN, "a0" + column);
                if (draught == 1) {
                    x.event(1, 0, 0);
                }
                for (int pull = 0; pull <= 4; pull++) {
                    x.rifle(0, pull);
                    int to = column + pull - 2 + draught;
                    String call = "COLUMN " + column + ", PULL " + pull + ", DRAUGHTS " + draught;
                    due.is(call, x.hits(0, 1), to >= 0 && to <= 5 ? to : TinDucks.NONE);
                    due.is(call + ": DOWN", x.down(0), to >= 0 && to <= 5 ? 1 : 0);
                }
            }
        }
    }

    private static void downIsNotHit() {
        due.sentence("and a DUCK that is not DOWN is there on its CHAIN, it HITS that one, else it MISSES");
        TinDucks x = Told.still("0at1;1bt2", "a00;b00;b01;b10;b11");
        int[] own = {0, TinDucks.NONE, TinDucks.NONE, TinDucks.NONE, 1};
        for (int shot = 0; shot < 5; shot++) {
            due.is("hits(" + shot + ", 1)", x.hits(shot, 1), own[shot]);
        }
        due.is("MISSES", x.sum(2), 3);
        due.is("one that is DOWN is not HIT again", x.at(23, 0, 2), 1);
    }

    private static void behindTheLastTick() {
        due.sentence("one that would come behind TICK 23 MISSES");
        for (int flight = 0; flight <= 3; flight++) {
            for (int tick = 19; tick <= 23; tick++) {
                TinDucks x = Told.still("0at4", (char) ('a' + tick) + "00");
                x.rifle(1, flight);
                boolean comes = tick + flight <= 23;
                String call = "TICK " + tick + ", FLIGHT " + flight;
                due.is(call + ": comes", x.hits(0, 0), comes ? tick + flight : TinDucks.NONE);
                due.is(call + ": HITS", x.hits(0, 1), comes ? 0 : TinDucks.NONE);
                due.is(call + ": brings", x.hits(0, 2), comes ? 4 : 0);
                due.is(call + ": MISSES", x.sum(2), comes ? 0 : 1);
                due.is(call + ": DOWN behind 23", x.down(23), comes ? 1 : 0);
            }
        }
    }

    private static void lead() {
        due.sentence("a heavy one is DENTED, if it stood, else DOWN");
        TinDucks x = Told.still("0ah7", "a00;x00");
        due.is("DENTED", x.at(0, 0, 1), 1);
        due.is("as long as nobody HITS it", x.at(22, 0, 1), 1);
        due.is("DOWN", x.at(23, 0, 1), 2);
        due.is("what dents brings nothing", x.hits(0, 2), 0);
        due.is("but it HITS", x.hits(0, 1), 0);
        due.is("the other brings", x.hits(1, 2), 7);
        due.is("a DENTED one is not DOWN", x.down(22), 0);
        x = Told.still("0ah7;0bh8", "a00;b01;c00;d01");
        due.is("one is DENTED", x.at(1, 0, 1), 1);
        due.is("another too", x.at(1, 1, 1), 1);
        due.is("one is DOWN", x.at(2, 0, 1), 2);
        due.is("the other is DENTED still", x.at(2, 1, 1), 1);
        due.is("both are DOWN", x.down(3), 2);
        x = Told.still("0ag1;1ah7", "a00;b10");
        due.is("from gum: DENTED", x.at(0, 1, 1), 1);
        due.is("then DOWN", x.at(1, 1, 1), 2);
    }

    private static void gumGoesOn() {
        due.sentence("the SHOT goes on to the CHAIN above (one more), in the like COLUMN");
        TinDucks x = Told.still("0ag1;1ag2;2ag4", "a00");
        due.is("and from one of gum on again", x.hits(0, 2), 7);
        due.is("all are DOWN", x.down(0), 3);
        due.is("HITS: one SHOT", x.sum(1), 1);
        x = Told.still("0ag1;1bg2;2ag4", "a00");
        due.is("not in another COLUMN, not over a gap", x.hits(0, 2), 1);
        x = Told.still("0ag1;1at2;2ag4", "a00");
        due.is("not on from tin", x.hits(0, 2), 3);
        x = Told.still("0ag1;1ah2;2ag4", "a00");
        due.is("not on from lead", x.hits(0, 2), 1);
        x = Told.still("0ag1;1ag2;2ag4", "a10;b00");
        due.is("not over one of gum that is DOWN", x.hits(1, 2), 1);
        x = Told.still("0ag1;1ag2;2ag4", "a20;b00");
        due.is("up to one that is DOWN", x.hits(1, 2), 3);
        x = Told.still("0at1;1ag2;2at4", "a10");
        due.is("not to the CHAIN below", x.at(0, 0, 2), 0);
        due.is("from CHAIN 1", x.hits(0, 2), 6);
        x = Told.still("0ag1;1bg2;2bt4", "a00");
        x.event(1, 0, 0);
        x.rifle(0, 1);
        due.is("in the like COLUMN as it came to", x.hits(0, 2), 1);
        x = Told.still("0ag1;1at2", "a05");
        x.rifle(0, 4);
        due.is("out of sight there is nothing above either", x.hits(0, 1), TinDucks.NONE);
        // the chains go by ways of their own: what counts is where they are in that tick
        x = Told.of("r1;l1;r0", "0ag1;1cg2;2bt4", "a01");
        x.rifle(1, 0);
        due.is("where they are in that TICK", x.hits(0, 2), 7);
    }

    private static void aboveTheHighest() {
        due.sentence("above CHAIN 2 there is nothing");
        TinDucks x = Told.still("2ag9;0at1;1at1", "a20");
        due.is("it brings", x.hits(0, 2), 9);
        due.is("none but that is DOWN", x.down(23), 1);
        due.is("SAFE", x.safe(), 6);
        x = Told.still("2fg9;0ag1;0ft3", "a25");
        due.is("in the last COLUMN", x.hits(0, 2), 9);
    }

    private static void itsOwn() {
        due.sentence("The first DUCK that a SHOT HITS is its own");
        TinDucks x = Told.still("2at4;1ag2;0ag1", "a00;b00");
        due.is("not the least", x.hits(0, 1), 2);
        due.is("none", x.hits(1, 1), TinDucks.NONE);
        due.is("none brings", x.hits(1, 2), 0);
    }

    private static void worthEachTime() {
        due.sentence("Each DUCK that goes DOWN brings its WORTH");
        TinDucks x = Told.still("0at9;0bh9", "a00;b00;c00;a01;b01;c01");
        x.event(2, 1, 0);
        x.event(2, 2, 0);
        due.is("DOWN three times, and lead once", x.sum(0), 36);
        x.wipe(2);
        due.is("no SHOTS", x.sum(0), 0);
        x = Told.still("0ag9;1ag9;2ag9;0bg9;1bg9;2bg9;0cg9;1cg9;2cg9;0dg9;1dg9;2dg9", "a00;a01;a02;a03;a04");
        due.is("the most in a TICK", x.sum(0), 108);
        due.is("of one SHOT", x.hits(3, 2), 27);
        due.is("DOWN", x.down(0), 12);
    }

    private static void howOftenHit() {
        due.sentence("how often it was HIT by then");
        for (int before = 0; before <= 11; before += 11) {
            // lead that comes round every four ticks, in the first column behind ticks 3, 7, 11, 15, 19, 23
            String others = "1at1;1bt1;1ct1;1dt1;1et1;1ft1;1gt1;1ht1;1it1;1jt1;1kt1;".substring(0, 5 * before);
            TinDucks x = Told.of("r3", others + "0ah1", "d00;d00;h00;h00;l00;l00;p00;p00;t00;t00;x00;x00");
            x.rifle(1, 0);
            for (int tick = 0; tick <= 23; tick++) {
                due.is("DUCK " + before + " behind " + tick, x.at(tick, before, 2), 2 * ((tick + 1) / 4));
            }
            due.is("twelve times: EASY", x.easy(), before);
            due.is("SCORE", x.sum(0), 6);
            if (before > 0) {
                due.is("not the one ahead of it", x.at(23, before - 1, 2), 0);
            }
        }
    }

    private static void howManyDown() {
        due.sentence("How many DUCKS are DOWN behind a TICK");
        TinDucks x = new TinDucks();
        due.is("no DUCKS", x.down(0), 0);
        due.is("no DUCKS", x.down(23), 0);
        x = Told.still("0at1;0bt1;0ct1;0dt1;0et1;0ft1;1at1;1bt1;1ct1;1dt1;1et1;1ft1", "a00;b01;c02;d03;e04;f05;g10;h11;i12;j13;k14;l15");
        for (int tick = 0; tick <= 23; tick++) {
            due.is("down(" + tick + ")", x.down(tick), Math.min(tick + 1, 12));
        }
        due.is("count(6)", x.count(6), 12);
    }

    private static void whoIsThere() {
        due.sentence("who is at a PLACE of a CHAIN (NONE)");
        TinDucks x = Told.still("2lt1;0at1;1ft1", "a00;a15");
        for (int chain = 0; chain <= 2; chain++) {
            for (int place = 0; place <= 11; place++) {
                int who = chain == 2 && place == 11 ? 0 : chain == 0 && place == 0 ? 1 : chain == 1 && place == 5 ? 2 : -1;
                due.is("sees(23, " + chain + ", " + place + ")", x.sees(23, chain, place), who);
            }
        }
        due.is("those that are DOWN too", x.down(23), 2);
        due.is("no DUCKS", new TinDucks().sees(0, 0, 0), TinDucks.NONE);
        int[][] bad = {{0, -1, 0}, {0, 3, 0}, {0, 0, -1}, {0, 0, 12}};
        for (int[] b : bad) {
            due.is("sees(0, " + b[1] + ", " + b[2] + ")", x.sees(b[0], b[1], b[2]), TinDucks.BAD);
        }
    }

    private static void noSuchThings() {
        due.sentence("BAD -2 (a number not as told, no such thing)");
        TinDucks x = Told.full();
        due.is("the twelfth DUCK", x.at(0, 11, 0), 2);
        due.is("a thirteenth", x.at(0, 12, 0), TinDucks.BAD);
        due.is("the twelfth SHOT", x.hits(11, 0), TinDucks.NONE);
        due.is("a thirteenth", x.hits(12, 0), TinDucks.BAD);
        x = new TinDucks();
        due.is("of no DUCKS", x.at(0, 0, 0), TinDucks.BAD);
        due.is("of no SHOTS", x.hits(0, 0), TinDucks.BAD);
        x = Told.of("", "0at1;", "a00;");
        due.is("of DUCKS with a FAULT", x.at(0, 0, 0), TinDucks.BAD);
        due.is("of SHOTS with a FAULT", x.hits(0, 0), TinDucks.BAD);
    }
}
