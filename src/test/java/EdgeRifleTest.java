/** Promises 9 to 12: each sentence on the rifle and on events that names a boundary case, by itself. */
public final class EdgeRifleTest {
    private static final Due due = new Due();

    public static void main(String[] args) {
        pull();
        pullPutsAside();
        flight();
        flightComesLater();
        refusedRifle();
        eightEvents();
        kindsTicksNumbers();
        jerks();
        whateverNumber();
        noSuchChain();
        noSuchDuck();
        lastIsUndone();
        anotherInPlaceOfTheLast();
        noEventToUndo();
        wholeOnes();
        asLongAsEachMayBe();
        roomForEight();
        readRefuses();
        due.end();
    }

    private static void pull() {
        due.sentence("PULL, 0 to 4 (2 at first)");
        TinDucks x = Told.still(Told.ROUND_OF_TIN, "a02");
        due.is("at first it puts no SHOT aside", x.hits(0, 1), 2);
        int was = 2;
        int[] good = {0, 4, 1, 3, 2, 2};
        for (int v : good) {
            due.is("rifle(0, " + v + ")", x.rifle(0, v), was);
            was = v;
        }
        int[] bad = {-1, 5, Told.LEAST, Told.GREATEST};
        for (int v : bad) {
            due.is("rifle(0, " + v + ")", x.rifle(0, v), TinDucks.BAD);
        }
        due.is("it is as it was", x.rifle(0, 0), 2);
        due.is("FLIGHT too", x.rifle(1, 0), 0);
    }

    private static void pullPutsAside() {
        due.sentence("aside to the right by as many COLUMNS as that less 2 (to the left, where that is less)");
        TinDucks x = Told.still(Told.ROUND_OF_TIN, "");
        for (int column = 0; column < 6; column++) {
            Told.text(x, 2, "a0" + column);
            for (int pull = 0; pull <= 4; pull++) {
                x.rifle(0, pull);
                int to = column + pull - 2;
                due.is("PULL " + pull + ", COLUMN " + column, x.hits(0, 1), to >= 0 && to <= 5 ? to : TinDucks.NONE);
            }
        }
    }

    private static void flight() {
        due.sentence("FLIGHT, 0 to 3 TICKS (1 at first)");
        TinDucks x = Told.of("", "", "a00");
        due.is("at first a SHOT comes a TICK later", x.hits(0, 0), 1);
        int was = 1;
        int[] good = {0, 3, 1, 2, 2};
        for (int v : good) {
            due.is("rifle(1, " + v + ")", x.rifle(1, v), was);
            was = v;
        }
        int[] bad = {-1, 4, 5, Told.LEAST, Told.GREATEST};
        for (int v : bad) {
            due.is("rifle(1, " + v + ")", x.rifle(1, v), TinDucks.BAD);
        }
        due.is("it is as it was", x.rifle(1, 0), 2);
        due.is("PULL too", x.rifle(0, 0), 2);
    }

    private static void flightComesLater() {
        due.sentence("by which a SHOT comes later than it is fired");
        for (int tick = 0; tick <= 23; tick++) {
            TinDucks x = Told.of("r0", Told.ROUND_OF_TIN, (char) ('a' + tick) + "03");
            for (int flight = 0; flight <= 3; flight++) {
                x.rifle(1, flight);
                int comes = tick + flight <= 23 ? tick + flight : TinDucks.NONE;
                due.is("TICK " + tick + ", FLIGHT " + flight, x.hits(0, 0), comes);
                due.is("it HITS", x.hits(0, 1), comes == TinDucks.NONE ? TinDucks.NONE : 3);
                if (comes > 0) {
                    due.is("not before", x.at(comes - 1, 3, 1), 0);
                }
                if (comes >= 0) {
                    due.is("then", x.at(comes, 3, 1), 2);
                }
            }
        }
    }

    private static void refusedRifle() {
        due.sentence("PULL is (what = 0), FLIGHT is (1): what it was. BAD");
        TinDucks x = new TinDucks();
        int[] bad = {-1, 2, Told.LEAST, Told.GREATEST};
        for (int what : bad) {
            due.is("rifle(" + what + ", 0)", x.rifle(what, 0), TinDucks.BAD);
        }
        due.is("PULL", x.rifle(0, 2), 2);
        due.is("FLIGHT", x.rifle(1, 1), 1);
    }

    private static void eightEvents() {
        due.sentence("EVENTS, 8 at most");
        TinDucks x = new TinDucks();
        for (int i = 1; i <= 8; i++) {
            due.is("event " + i, x.event(1, 5, 5), i);
        }
        due.is("a ninth", x.event(1, 5, 5), TinDucks.FULL);
        due.is("BAD ahead of FULL: a kind", x.event(3, 5, 5), TinDucks.BAD);
        due.is("BAD ahead of FULL: a TICK", x.event(1, 24, 5), TinDucks.BAD);
        due.is("BAD ahead of FULL: a number", x.event(1, 5, 12), TinDucks.BAD);
        due.is("count(3)", x.count(3), 8);
        due.is("one is undone", x.back(), 7);
        due.is("there is room again", x.event(0, 0, 0), 8);
        due.is("for one", x.event(0, 0, 0), TinDucks.FULL);

        x = Told.of("r1", "0at1", "");
        for (int tick = 0; tick < 8; tick++) {
            x.event(0, tick, 0);
        }
        x.event(0, 8, 0);
        due.is("each of 8 is", x.at(7, 0, 0), 0);
        due.is("the ninth is not", x.at(8, 0, 0), 1);
    }

    private static void kindsTicksNumbers() {
        due.sentence("a kind, a TICK, a number 0 to 11");
        for (int kind = 0; kind <= 2; kind++) {
            TinDucks x = new TinDucks();
            int[][] bad = {{-1, 0}, {24, 0}, {0, -1}, {0, 12}, {Told.LEAST, 0}, {Told.GREATEST, 0}, {0, Told.LEAST},
                {0, Told.GREATEST}};
            for (int[] b : bad) {
                due.is("event(" + kind + ", " + b[0] + ", " + b[1] + ")", x.event(kind, b[0], b[1]), TinDucks.BAD);
            }
            due.is("none came", x.count(3), 0);
            int[][] good = {{0, 0}, {23, 0}, {0, 11}, {23, 11}};
            for (int i = 0; i < good.length; i++) {
                String call = "event(" + kind + ", " + good[i][0] + ", " + good[i][1] + ")";
                due.is(call, x.event(kind, good[i][0], good[i][1]), i + 1);
            }
        }
        TinDucks x = new TinDucks();
        int[] badKinds = {-1, 3, Told.LEAST, Told.GREATEST};
        for (int kind : badKinds) {
            due.is("event(" + kind + ", 0, 0)", x.event(kind, 0, 0), TinDucks.BAD);
        }
        due.is("none came", x.count(3), 0);
    }

    private static void jerks() {
        due.sentence("that CHAIN JERKS: it does not go in it");
        for (int chain = 0; chain < 3; chain++) {
            for (int tick = 0; tick <= 23; tick++) {
                TinDucks x = Told.of("r1;l2;r3", "0at1;1at1;2at1", "");
                x.event(0, tick, chain);
                x.event(0, tick, chain);
                for (int other = 0; other < 3; other++) {
                    int way = x.chain(other);
                    int lost = other == chain ? 1 : 0;
                    if (tick > 0) {
                        due.is("ahead of it", x.at(tick - 1, other, 0), Math.floorMod(tick * way, 12));
                    }
                    due.is("behind it", x.at(tick, other, 0), Math.floorMod((tick + 1 - lost) * way, 12));
                    due.is("at the end", x.at(23, other, 0), Math.floorMod((24 - lost) * way, 12));
                }
            }
        }
        TinDucks x = Told.of("r0", "0at1", "");
        x.event(0, 3, 0);
        due.is("of one that goes by 0", x.at(3, 0, 0), 0);
    }

    private static void whateverNumber() {
        due.sentence("a DRAUGHT in it (whatever number is told)");
        for (int number = 0; number <= 11; number++) {
            TinDucks x = Told.still(Told.ROUND_OF_TIN, "a02;b03");
            x.event(1, 1, number);
            due.is("DRAUGHT " + number + ": in it", x.hits(1, 1), 4);
            due.is("DRAUGHT " + number + ": not ahead of it", x.hits(0, 1), 2);
            due.is("no CHAIN JERKS, no DUCK is SET", x.down(23), 2);
        }
    }

    private static void noSuchChain() {
        due.sentence("nothing, where there is no such CHAIN");
        for (int number = 3; number <= 11; number++) {
            TinDucks x = Told.of("r1;l2;r3", Told.FULL_TEXTS[1], Told.FULL_TEXTS[2]);
            TinDucks without = Told.of("r1;l2;r3", Told.FULL_TEXTS[1], Told.FULL_TEXTS[2]);
            due.is("event(0, 4, " + number + ")", x.event(0, 4, number), 1);
            alike(x, without);
        }
        TinDucks x = Told.of("r1;l2;r3", "2at1", "");
        x.event(0, 4, 2);
        due.is("the last that there is JERKS", x.at(4, 0, 0), x.at(3, 0, 0));
    }

    private static void noSuchDuck() {
        due.sentence("nothing, where there is no such DUCK");
        String ducks = "0at1;0bt2";
        String shots = "a00;a01;c00;c01";
        TinDucks without = Told.still(ducks, shots);
        for (int number = 2; number <= 11; number++) {
            TinDucks x = Told.still(ducks, shots);
            due.is("event(2, 1, " + number + ")", x.event(2, 1, number), 1);
            alike(x, without);
        }
        TinDucks x = Told.still(ducks, shots);
        x.event(2, 1, 1);
        due.is("the last that there is is SET", x.at(1, 1, 1), 0);
        due.is("not the other", x.at(1, 0, 1), 2);
        x.type(1, ';');
        due.is("with a FAULT there is none", x.down(1), 0);
        due.is("the EVENT stays", x.count(3), 1);
        Told.text(x, 1, Told.ROUND_OF_TIN);
        x.back();
        Told.text(x, 1, "0gt1;0ht1;0it1;0jt1;0kt1;0lt1;0bt1;0ct1;0dt1;0et1;0ft1;0at1");
        x.event(2, 1, 11);
        due.is("DUCK 11 was DOWN", x.at(0, 11, 1), 2);
        due.is("DUCK 11 is SET", x.at(1, 11, 1), 0);
        due.is("not another", x.at(1, 6, 1), 2);
    }

    private static void alike(TinDucks x, TinDucks y) {
        for (int tick = 0; tick <= 23; tick++) {
            due.is("down(" + tick + ")", x.down(tick), y.down(tick));
            for (int duck = 0; duck < x.count(0); duck++) {
                if (tick % 5 == 4) {
                    due.is("at(" + tick + ", " + duck + ", 0)", x.at(tick, duck, 0), y.at(tick, duck, 0));
                }
            }
        }
        for (int what = 0; what <= 2; what++) {
            due.is("sum(" + what + ")", x.sum(what), y.sum(what));
        }
    }

    private static void lastIsUndone() {
        due.sentence("The last EVENT is undone: how many are left");
        TinDucks x = Told.of("r1", "0at1", "");
        for (int i = 0; i < 8; i++) {
            x.event(0, 2 * i, 0);
        }
        for (int left = 7; left >= 0; left--) {
            due.is("back()", x.back(), left);
            due.is("count(3)", x.count(3), left);
            due.is("it is not any more", x.at(2 * left, 0, 0), left + 1);
            due.is("those ahead of it are", x.at(23, 0, 0), (24 - left) % 12);
        }
    }

    private static void anotherInPlaceOfTheLast() {
        due.sentence("The last EVENT is undone: and is not, when another comes");
        for (int before = 0; before < 8; before++) {
            TinDucks x = Told.of("r1", "0at1", "");
            for (int i = 0; i < before; i++) {
                x.event(0, i, 0);
            }
            x.event(0, 20, 0);
            x.back();
            x.event(0, 22, 0);
            due.is(before + " ahead of it: behind 19", x.at(19, 0, 0), (20 - before) % 12);
            due.is(before + " ahead of it: behind 20", x.at(20, 0, 0), (21 - before) % 12);
            due.is(before + " ahead of it: behind 22", x.at(22, 0, 0), (22 - before) % 12);
            x.back();
            x.event(1, 21, 0);
            due.is(before + " ahead of it: a DRAUGHT in its place", x.at(22, 0, 0), (23 - before) % 12);
        }
    }

    private static void noEventToUndo() {
        due.sentence("NOT: there is none");
        TinDucks x = new TinDucks();
        due.is("of a new object", x.back(), TinDucks.NOT);
        x.event(0, 0, 0);
        x.back();
        due.is("when the last is undone", x.back(), TinDucks.NOT);
        due.is("count(3)", x.count(3), 0);
        due.is("one more then", x.event(0, 0, 0), 1);
    }

    private static void wholeOnes() {
        due.sentence("its items, three for each, as many as are whole");
        for (int form = 0; form < 3; form++) {
            for (int n = 0; n <= 26; n++) {
                TinDucks x = new TinDucks();
                x.sheet(3, form, n);
                due.is("read of " + n + " items", x.read(3), n / 3);
                due.is("count(3)", x.count(3), n / 3);
            }
        }
        TinDucks x = Told.still("0at1;0bt1;0ct1", "b00;b01");
        int[] items = {2, 2, 1, 1, 1, 11, 0, 0, 0, 1, 0};
        x.sheet(0, 0, items.length);
        for (int i = 0; i < items.length; i++) {
            x.lay(0, 0, i, items[i]);
        }
        due.is("kind, TICK, number of each", x.read(0), 3);
        due.is("a DRAUGHT in TICK 1", x.hits(0, 1), 1);
        due.is("a DUCK was DOWN", x.at(1, 1, 1), 2);
        due.is("and is SET in TICK 2", x.at(2, 1, 1), 0);
        due.is("the row stays", x.get(0, 0, 5), 11);
    }

    private static void asLongAsEachMayBe() {
        due.sentence("as long as each may be");
        int[][] bad = {{3, 0, 0}, {-1, 0, 0}, {0, 24, 0}, {0, -1, 0}, {0, 0, 12}, {1, 0, 12}, {2, 0, -1},
            {127, 0, 0}, {0, -128, 0}, {0, 0, 127}};
        for (int[] b : bad) {
            for (int at = 0; at < 8; at++) {
                TinDucks x = new TinDucks();
                x.sheet(1, at % 3, 24);
                for (int part = 0; part < 3; part++) {
                    x.lay(1, at % 3, 3 * at + part, b[part]);
                }
                due.is("read: " + b[0] + ", " + b[1] + ", " + b[2] + " is the one at " + at, x.read(1), at);
                due.is("none behind it", x.count(3), at);
            }
        }
        TinDucks x = new TinDucks();
        x.sheet(1, 2, 3);
        x.lay(1, 2, 1, Told.LEAST);
        due.is("read: the least int", x.read(1), 0);
        x.lay(1, 2, 1, Told.GREATEST);
        due.is("read: the greatest int", x.read(1), 0);
        x.lay(1, 2, 1, 23);
        x.lay(1, 2, 0, 2);
        x.lay(1, 2, 2, 11);
        due.is("read: the greatest that may be", x.read(1), 1);
    }

    private static void roomForEight() {
        due.sentence("EVENTS, 8 at most: from a SHEET");
        for (int before = 0; before <= 8; before++) {
            TinDucks x = new TinDucks();
            for (int i = 0; i < before; i++) {
                x.event(0, 0, 0);
            }
            x.sheet(0, 1, 60);
            due.is("read with " + before + " ahead of them", x.read(0), 8 - before);
            due.is("count(3)", x.count(3), 8);
        }
    }

    private static void readRefuses() {
        due.sentence("BAD; NULL: of read");
        TinDucks x = Told.full();
        int[] bad = {-1, 4, Told.LEAST, Told.GREATEST};
        for (int s : bad) {
            due.is("read(" + s + ")", x.read(s), TinDucks.BAD);
        }
        due.is("no FINDING", x.count(8), 0);
        due.is("a LOST one", x.read(3), -11);
        due.is("its number", x.count(8), 1);
        due.is("EVENTS are as many", x.count(3), 8);
    }
}
