/** Promises 25 to 29: each sentence on what was seen that names a boundary case, by itself. */
public final class EdgeSeenTest {
    private static final Due due = new Due();

    public static void main(String[] args) {
        eightSeen();
        forgotten();
        ticksAndDucks();
        downOrNot();
        noSuchDuck();
        nothingSeen();
        never();
        hadItAloneNotBeen();
        pulls();
        kinds();
        ask();
        askOfAnyTwoShots();
        askOfNone();
        changeNothing();
        noSuchThings();
        due.end();
    }

    private static void eightSeen() {
        due.sentence("SEEN, 8 at most");
        TinDucks x = new TinDucks();
        for (int i = 1; i <= 8; i++) {
            due.is("seen " + i, x.seen(0, 0, 0), i);
            due.is("count(7)", x.count(7), i);
        }
        due.is("a ninth", x.seen(0, 0, 0), TinDucks.FULL);
        due.is("BAD ahead of FULL: a TICK", x.seen(24, 0, 0), TinDucks.BAD);
        due.is("BAD ahead of FULL: a DUCK", x.seen(0, 12, 0), TinDucks.BAD);
        due.is("BAD ahead of FULL: neither DOWN nor not", x.seen(0, 0, 2), TinDucks.BAD);
        due.is("count(7)", x.count(7), 8);

        // of eight each one counts, of nine the ninth does not
        for (int wrong = 0; wrong <= 8; wrong++) {
            x = Told.still("0at1", "");
            for (int i = 0; i <= 8; i++) {
                x.seen(i, 0, i == wrong ? 1 : 0);
            }
            due.is("not so at " + wrong, x.might(1), wrong < 8 ? 0 : 31);
        }
    }

    private static void forgotten() {
        due.sentence("All SEEN are forgotten: how many");
        TinDucks x = Told.still("0at1", "");
        due.is("none", x.forget(), 0);
        x.seen(0, 0, 1);
        due.is("one", x.forget(), 1);
        due.is("none is left", x.forget(), 0);
        due.is("it does not count any more", x.might(1), 31);
        for (int i = 0; i < 8; i++) {
            x.seen(0, 0, 1);
        }
        due.is("eight", x.forget(), 8);
        due.is("there is room again", x.seen(0, 0, 0), 1);
        due.is("for what comes out so", x.might(1), 31);
    }

    private static void ticksAndDucks() {
        due.sentence("behind a TICK a DUCK (0 to 11)");
        TinDucks x = new TinDucks();
        int[][] good = {{0, 0, 0}, {23, 0, 1}, {0, 11, 1}, {23, 11, 0}};
        for (int i = 0; i < good.length; i++) {
            due.is("seen " + i, x.seen(good[i][0], good[i][1], good[i][2]), i + 1);
        }
        int[][] bad = {{-1, 0, 0}, {24, 0, 0}, {0, -1, 0}, {0, 12, 0}, {0, 0, -1}, {0, 0, 2}, {Told.LEAST, 0, 0},
            {Told.GREATEST, 0, 0}, {0, Told.LEAST, 0}, {0, Told.GREATEST, 0}, {0, 0, Told.LEAST}, {0, 0, Told.GREATEST}};
        for (int[] b : bad) {
            due.is("seen(" + b[0] + ", " + b[1] + ", " + b[2] + ")", x.seen(b[0], b[1], b[2]), TinDucks.BAD);
        }
        due.is("count(7)", x.count(7), 4);
    }

    private static void downOrNot() {
        due.sentence("was DOWN (1), or not (0)");
        int[][] rows = {{22, 0, 0, 4}, {22, 0, 1, 0}, {23, 0, 1, 4}, {23, 0, 0, 0}, {22, 1, 0, 4}, {23, 1, 0, 4}, {23, 1, 1, 0}};
        for (int[] row : rows) {
            // tin is down behind 23 alone, lead is dented there: by any other pull both are missed
            TinDucks x = Told.still("0ct1;1ch1", "x02;x12");
            x.seen(23, 0, 1);
            x.seen(row[0], row[1], row[2]);
            due.is("by " + row[0] + ", " + row[1] + ", " + row[2], x.might(1), row[3]);
        }
    }

    private static void noSuchDuck() {
        due.sentence("of one that there is not neither ever comes out so");
        for (int is = 0; is <= 1; is++) {
            for (int ducks = 0; ducks <= 11; ducks++) {
                String text = Told.ROUND_OF_TIN.substring(0, Math.max(0, 5 * ducks - 1));
                TinDucks x = Told.still(text, "");
                x.event(1, 5, 0);
                x.seen(23, ducks, is);
                due.is(ducks + " DUCKS, " + is + ": NEVER", x.might(0), 0);
                due.is(ducks + " DUCKS, " + is + ": PULLS", x.might(1), 0);
                due.is(ducks + " DUCKS, " + is + ": KIND", x.kind(0), ducks == 0 ? TinDucks.BAD : 0);
                due.is(ducks + " DUCKS, " + is + ": ASK", x.ask(), 0);
                Told.text(x, 1, Told.ROUND_OF_TIN.substring(0, 5 * ducks + 4));
                due.is(ducks + 1 + " DUCKS, " + is + ": PULLS", x.might(1), is == 0 ? 31 : 0);
                due.is(ducks + 1 + " DUCKS, " + is + ": NEVER", x.might(0), is == 0 ? 1 : 0);
                x.undo(1);
                due.is("with a FAULT there is none", x.might(1), 0);
            }
        }
    }

    private static void nothingSeen() {
        due.sentence("nothing SEEN: all comes out so");
        TinDucks x = new TinDucks();
        due.is("no EVENTS: NEVER", x.might(0), 0);
        due.is("no DUCKS, no SHOTS: PULLS", x.might(1), 31);
        due.is("no DUCKS, no SHOTS: ASK", x.ask(), 0);
        x = Told.full();
        x.forget();
        due.is("8 EVENTS: NEVER", x.might(0), 255);
        due.is("PULLS", x.might(1), 31);
        for (int duck = 0; duck < 12; duck++) {
            due.is("KIND of " + duck, x.kind(duck), 7);
        }
    }

    private static void never() {
        due.sentence("NEVER: EVENTS each of which, had it alone not been, makes all that was SEEN come out so, as bits");
        for (int e = 0; e < 8; e++) {
            TinDucks x = Told.still("0ah1", "a00;b00;c00;d00;e00;f00;g00;h00");
            for (int tick = 0; tick < 8; tick++) {
                x.event(1, tick, 0);
            }
            due.is("nothing SEEN", x.might(0), 255);
            x.seen(23, 0, 0);
            due.is("each alone lets it be DENTED only", x.might(0), 255);
            x.forget();
            x.seen(23, 0, 1);
            due.is("not one alone lets it be DOWN", x.might(0), 0);
            Told.text(x, 1, "0at1");
            due.is("tin: each alone lets it be DOWN", x.might(0), 255);
            x.seen(e, 0, 1);
            due.is("DOWN behind " + e, x.might(0), (2 << e) - 1);
            if (e > 0) {
                x.seen(e - 1, 0, 0);
                due.is("not behind " + (e - 1), x.might(0), 1 << e);
            }
        }
    }

    private static void hadItAloneNotBeen() {
        due.sentence("had it alone not been");
        TinDucks x = Told.still("0at1", "a00");
        x.event(1, 0, 0);
        x.event(1, 0, 0);
        x.seen(0, 0, 0);
        due.is("two of one TICK: the other is", x.might(0), 3);
        x.forget();
        x.seen(0, 0, 1);
        due.is("not DOWN without one of both", x.might(0), 0);
        x.back();
        due.is("DOWN without the only one", x.might(0), 1);
        x.back();
        due.is("SEEN so, and no EVENTS", x.might(0), 0);
    }

    private static void pulls() {
        due.sentence("PULLS: 0 to 4, in place of what is told, likewise, as bits");
        for (int pull = 0; pull <= 4; pull++) {
            TinDucks x = Told.still(Told.ROUND_OF_TIN, "a02");
            x.rifle(0, 4 - pull);
            x.seen(0, pull, 1);
            due.is("that one", x.might(1), 1 << pull);
            x.forget();
            x.seen(0, pull, 0);
            due.is("all but that one", x.might(1), 31 - (1 << pull));
            due.is("what is told stays", x.rifle(0, 0), 4 - pull);
        }
    }

    private static void kinds() {
        due.sentence("KIND of a DUCK: 0 t, 1 h, 2 g, in place of its own, likewise, as bits");
        char[] own = {'t', 'h', 'g'};
        for (char kind : own) {
            TinDucks x = Told.still("0a" + kind + "1;1at1", "a00");
            due.is("nothing SEEN", x.kind(0), 7);
            x.seen(0, 0, 1);
            due.is("DOWN", x.kind(0), 5);
            x.seen(0, 1, 0);
            due.is("DOWN, and not the one above", x.kind(0), 1);
            x.forget();
            x.seen(0, 1, 1);
            due.is("the one above is DOWN", x.kind(0), 4);
            x.seen(0, 0, 0);
            due.is("but not it", x.kind(0), 0);
            x.forget();
            x.seen(0, 0, 0);
            due.is("not DOWN", x.kind(0), 2);
            due.is("it is as told", x.duck(0, 2), "thg".indexOf(kind));
        }
        TinDucks x = Told.still("0bt1;0ct1;0dt1;0et1;0ft1;0gt1;0ht1;0it1;0jt1;0kt1;0lt1;0ah1", "a00");
        x.seen(0, 11, 1);
        due.is("of the twelfth", x.kind(11), 5);
    }

    private static void ask() {
        due.sentence("ASK: the TICK behind which the greatest number .. is least, of like ones the least");
        for (int tick = 0; tick <= 23; tick++) {
            TinDucks x = Told.still(Told.ROUND_OF_TIN, (char) ('a' + tick) + "02");
            due.is("all apart behind " + tick, x.ask(), tick);
        }
        // down by PULL 0 to 4, behind 0: none, none, 0, 1, none; behind 5: none, 0, both, 1, none
        TinDucks x = Told.still("0at1;0bt1", "a00;f01");
        due.is("the greatest number is least", x.ask(), 5);
        x.event(2, 9, 0);
        due.is("of like ones the least", x.ask(), 5);
        x.seen(23, 1, 1);
        due.is("of those of PULLS alone", x.might(1), 12);
        due.is("apart at once", x.ask(), 0);
        due.is("all alike: the least", Told.still("1at1", "x02").ask(), 0);
        // behind 0: by 0, 1, 2 none, by 3, 4 the first; behind 5: by 2 the second
        due.is("of two numbers of them the greatest counts", Told.still("0ct1;0ft1", "a00;a01;f05").ask(), 5);
    }

    /** Which of ROUND_OF_TIN two SHOTS by a PULL have put DOWN, the second from some TICK on. */
    private static int downBy(int pull, int first, int second, boolean both) {
        int bits = 0;
        int[] columns = {first + pull - 2, second + pull - 2};
        for (int i = 0; i < (both ? 2 : 1); i++) {
            bits |= columns[i] >= 0 && columns[i] <= 5 ? 1 << columns[i] : 0;
        }
        return bits;
    }

    private static int mostAlike(int[] rows) {
        int most = 0;
        for (int row : rows) {
            int like = 0;
            for (int other : rows) {
                like += row == other ? 1 : 0;
            }
            most = Math.max(most, like);
        }
        return most;
    }

    private static void askOfAnyTwoShots() {
        due.sentence("the greatest number of those of PULLS by which the like DUCKS are DOWN is least, of like ones the least");
        for (int first = 0; first <= 5; first++) {
            for (int second = 0; second <= 5; second++) {
                int[] early = new int[5];
                int[] late = new int[5];
                for (int pull = 0; pull <= 4; pull++) {
                    early[pull] = downBy(pull, first, second, false);
                    late[pull] = downBy(pull, first, second, true);
                }
                TinDucks x = Told.still(Told.ROUND_OF_TIN, "c0" + first + ";t0" + second);
                // ahead of both SHOTS all five are alike
                int soFar = Math.min(5, mostAlike(early));
                int want = mostAlike(late) < soFar ? 19 : mostAlike(early) < 5 ? 2 : 0;
                due.is("COLUMNS " + first + " in TICK 2, " + second + " in TICK 19", x.ask(), want);
            }
        }
        due.is("five alike, then four", Told.still("0at1", "f00").ask(), 5);
        due.is("four alike, then five", Told.still("0at1", "a00").ask(), 0);
        due.is("the first two alike, then none", Told.still(Told.ROUND_OF_TIN, "a00;f02").ask(), 5);
        due.is("the last two alike, then none", Told.still(Told.ROUND_OF_TIN, "a05;f02").ask(), 5);
        TinDucks x = Told.still("0ct1", "c02;f01");
        x.event(2, 4, 0);
        due.is("one alone is DOWN behind 2, another behind 5: the least", x.ask(), 2);
    }

    private static void askOfNone() {
        due.sentence("ASK, where PULLS are none: of like ones the least");
        TinDucks x = Told.still(Told.ROUND_OF_TIN, "k02");
        x.seen(10, 2, 1);
        due.is("one alone", x.ask(), 0);
        x.seen(10, 2, 0);
        due.is("PULLS", x.might(1), 0);
        due.is("none", x.ask(), 0);
        due.is("of a new object", new TinDucks().ask(), 0);
    }

    private static void changeNothing() {
        due.sentence("what might be changes nothing");
        due.holds("might, kind, ask", Whole.isUnchangedBy(Told::full, x -> {
            x.might(0);
            x.might(1);
            x.kind(11);
            x.ask();
        }));
    }

    private static void noSuchThings() {
        due.sentence("NEVER (what = 0), PULLS (1). BAD; KIND. BAD");
        TinDucks x = Told.full();
        int[] bad = {-1, 2, Told.LEAST, Told.GREATEST};
        for (int what : bad) {
            due.is("might(" + what + ")", x.might(what), TinDucks.BAD);
        }
        int[] badDucks = {-1, 12, Told.LEAST, Told.GREATEST};
        for (int duck : badDucks) {
            due.is("kind(" + duck + ")", x.kind(duck), TinDucks.BAD);
        }
        due.is("kind(1) of one DUCK", Told.of("", "0at1", "").kind(1), TinDucks.BAD);
        due.is("kind(0) of no DUCK", new TinDucks().kind(0), TinDucks.BAD);
    }
}
