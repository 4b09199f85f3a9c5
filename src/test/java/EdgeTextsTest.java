import java.util.Arrays;

/** Promises 1 to 8 and the texts of 'Terms': each sentence that names a boundary case, by itself. */
public final class EdgeTextsTest {
    private static final Due due = new Due();
    /** By text: the bytes that may stand one behind another, then ; comes. */
    private static final String[][] SIGNS = {
        {"rl", "0123"},
        {"012", "abcdefghijkl", "thg", "123456789"},
        {"abcdefghijklmnopqrstuvwx", "012", "012345"},
    };

    public static void main(String[] args) {
        newObject();
        limits();
        emptyTexts();
        bytes();
        badAheadOfFull();
        wipeTells();
        undoTells();
        everyByteEverywhere();
        notEnded();
        emptyIsWell();
        firstFaultCounts();
        takenPlaces();
        oneTooMany();
        faultyIsEmpty();
        chainsNotTold();
        badChain();
        partsOfDucks();
        partsOfShots();
        due.end();
    }

    private static void newObject() {
        due.sentence("No CHAINS, DUCKS, SHOTS told");
        TinDucks x = new TinDucks();
        for (int text = 0; text < 3; text++) {
            due.is("undo(" + text + ")", x.undo(text), TinDucks.NOT);
            due.is("wipe(" + text + ")", x.wipe(text), 0);
        }
        due.is("duck(0, 0)", x.duck(0, 0), TinDucks.BAD);
        due.is("shot(0, 0)", x.shot(0, 0), TinDucks.BAD);
        due.is("count(2)", x.count(2), 0);
        due.sentence("PULL 2");
        due.is("rifle(0, 4)", x.rifle(0, 4), 2);
        due.sentence("FLIGHT 1");
        due.is("rifle(1, 3)", x.rifle(1, 3), 1);
        due.sentence("no EVENTS");
        due.is("count(3)", x.count(3), 0);
        due.is("back()", x.back(), TinDucks.NOT);
        due.sentence("all SHEETS are LOST");
        for (int s = 0; s < 4; s++) {
            due.is("lose(" + s + ")", x.lose(s), -11);
        }
        due.sentence("SEEN: none of a new object");
        due.is("forget()", new TinDucks().forget(), 0);
    }

    private static void limits() {
        String[] words = {"up to 8 bytes", "up to 59 bytes", "up to 47 bytes"};
        for (int text = 0; text < 3; text++) {
            due.sentence(words[text]);
            int limit = Told.TEXT_LIMITS[text];
            TinDucks x = new TinDucks();
            String s = Told.FULL_TEXTS[text];
            due.is("one less than full", Told.text(x, text, s.substring(0, limit - 1)), limit - 1);
            due.is("it is not ended", x.fault(text), limit - 1);
            due.is("full", x.type(text, s.charAt(limit - 1)), limit);
            due.is("it is well", x.fault(text), TinDucks.NONE);
            due.is("one more", x.type(text, ';'), TinDucks.FULL);
            due.is("it is as it was", x.fault(text), TinDucks.NONE);
            due.is("its bytes", x.count(2), limit);
            due.is("the last is undone", x.undo(text), limit - 1);
            due.is("and comes again", x.type(text, s.charAt(limit - 1)), limit);
            due.is("one more", x.type(text, 0), TinDucks.FULL);
            for (int other = 0; other < 3; other++) {
                due.is("the others have room", x.type(other, 'q'), other == text ? TinDucks.FULL : 1);
            }
        }
        due.sentence("up to 8 bytes: of CHAINS, 3 at most");
        due.is("count of them by their ways", Told.of("l1;l2;l3", "", "").chain(2), -3);
        due.sentence("up to 59 bytes: of DUCKS, 12 at most");
        due.is("count(0)", Told.of("", Told.FULL_TEXTS[1], "").count(0), 12);
        due.sentence("up to 47 bytes: of SHOTS, 12 at most");
        due.is("count(1)", Told.of("", "", Told.FULL_TEXTS[2]).count(1), 12);
    }

    private static void emptyTexts() {
        due.sentence("NOT: it is empty");
        for (int text = 0; text < 3; text++) {
            TinDucks x = new TinDucks();
            due.is("undo of a new one", x.undo(text), TinDucks.NOT);
            x.type(text, 'r');
            due.is("undo of one byte", x.undo(text), 0);
            due.is("undo of none", x.undo(text), TinDucks.NOT);
            x.type(text, 'r');
            x.wipe(text);
            due.is("undo behind wipe", x.undo(text), TinDucks.NOT);
            due.is("type behind that", x.type(text, 'r'), 1);
            x.type((text + 1) % 3, 'r');
            x.undo(text);
            due.is("another text has bytes", x.undo(text), TinDucks.NOT);
        }
    }

    private static void bytes() {
        due.sentence("A byte (0 to 255)");
        for (int text = 0; text < 3; text++) {
            TinDucks x = new TinDucks();
            int[] bad = {-1, 256, 'r' + 256, 'r' - 256, 65536, Told.LEAST, Told.GREATEST};
            for (int b : bad) {
                due.is("type(" + text + ", " + b + ")", x.type(text, b), TinDucks.BAD);
            }
            due.is("no byte came", x.count(2), 0);
            int[] good = {0, 1, 127, 128, 254, 255};
            for (int i = 0; i < good.length; i++) {
                due.is("type(" + text + ", " + good[i] + ")", x.type(text, good[i]), i + 1);
            }
        }
    }

    private static void badAheadOfFull() {
        due.sentence("BAD; FULL");
        TinDucks x = Told.full();
        for (int text = 0; text < 3; text++) {
            due.is("a byte that may not be", x.type(text, 256), TinDucks.BAD);
            due.is("a byte that may not be", x.type(text, -1), TinDucks.BAD);
            due.is("one that may", x.type(text, 255), TinDucks.FULL);
            due.is("one that may", x.type(text, 0), TinDucks.FULL);
        }
        due.is("no such text", x.type(3, 0), TinDucks.BAD);
        due.is("no such text", x.type(-1, 0), TinDucks.BAD);
    }

    private static void wipeTells() {
        due.sentence("A text is empty: how many bytes it had");
        for (int text = 0; text < 3; text++) {
            TinDucks x = Told.full();
            due.is("of a full one", x.wipe(text), Told.TEXT_LIMITS[text]);
            due.is("of an empty one", x.wipe(text), 0);
            due.is("it is empty", x.fault(text), TinDucks.NONE);
            due.is("the others are not", x.count(2), 8 + 59 + 47 - Told.TEXT_LIMITS[text]);
            x.type(text, 255);
            due.is("of one with a FAULT", x.wipe(text), 1);
            due.is("as empty as a new one", Told.text(x, text, Told.FULL_TEXTS[text]), Told.TEXT_LIMITS[text]);
        }
    }

    private static void undoTells() {
        due.sentence("The last byte of a text is undone: how many are left");
        for (int text = 0; text < 3; text++) {
            TinDucks x = Told.full();
            for (int left = Told.TEXT_LIMITS[text] - 1; left >= 0; left--) {
                due.is("undo(" + text + ")", x.undo(text), left);
            }
            due.is("the others are as they were", x.count(2), 8 + 59 + 47 - Told.TEXT_LIMITS[text]);
        }
        TinDucks x = Told.of("l2;q", "", "");
        x.undo(0);
        x.type(0, 'l');
        x.type(0, '3');
        due.is("the first are as they were", x.chain(0), -2);
        due.is("a byte came in place of the one undone", x.chain(1), -3);
    }

    private static void everyByteEverywhere() {
        due.sentence("the first byte with which it cannot go on");
        for (int text = 0; text < 3; text++) {
            String s = Told.FULL_TEXTS[text];
            for (int place = 0; place < s.length(); place++) {
                for (int b = 0; b <= 255; b++) {
                    String begun = s.substring(0, place) + (char) b;
                    TinDucks x = new TinDucks();
                    Told.text(x, text, begun);
                    due.is("fault(" + text + ") of " + begun, x.fault(text), faultOfLast(text, begun));
                }
            }
        }
    }

    /** Of a text that goes on well up to its last byte. */
    private static int faultOfLast(int text, String begun) {
        int last = begun.length() - 1;
        int width = SIGNS[text].length;
        int sign = last % (width + 1);
        boolean may = (sign == width ? ";" : SIGNS[text][sign]).indexOf(begun.charAt(last)) >= 0;
        if (text == 1 && sign == 1) {
            may &= !(";" + begun.substring(0, last - 2 < 0 ? 0 : last - 2)).contains(";" + begun.substring(last - 1));
        }
        if (!may) {
            return last;
        }
        return sign == width - 1 ? TinDucks.NONE : last + 1;
    }

    private static void notEnded() {
        due.sentence("of one that is not ended, its end");
        for (int text = 0; text < 3; text++) {
            String s = Told.FULL_TEXTS[text];
            int width = SIGNS[text].length;
            for (int n = 1; n <= s.length(); n++) {
                TinDucks x = new TinDucks();
                Told.text(x, text, s.substring(0, n));
                due.is("fault(" + text + ") of " + s.substring(0, n), x.fault(text), n % (width + 1) == width ? -1 : n);
            }
        }
    }

    private static void emptyIsWell() {
        due.sentence("an empty one is well");
        for (int text = 0; text < 3; text++) {
            TinDucks x = new TinDucks();
            due.is("of a new one", x.fault(text), TinDucks.NONE);
            x.type(text, ' ');
            due.is("of one with a byte that may not be", x.fault(text), 0);
            x.undo(text);
            due.is("of one that is empty again", x.fault(text), TinDucks.NONE);
        }
    }

    private static void firstFaultCounts() {
        due.sentence("the place of the first byte");
        for (int text = 0; text < 3; text++) {
            for (int place = 0; place < Told.TEXT_LIMITS[text]; place++) {
                StringBuilder s = new StringBuilder(Told.FULL_TEXTS[text]);
                for (int i = place; i < s.length(); i += 2) {
                    s.setCharAt(i, '?');
                }
                TinDucks x = new TinDucks();
                Told.text(x, text, s.toString());
                due.is("fault(" + text + ") of " + s, x.fault(text), place);
            }
        }
    }

    private static void takenPlaces() {
        due.sentence("of a letter where another DUCK of that CHAIN is");
        for (int chain = 0; chain < 3; chain++) {
            for (int later = 1; later < 12; later++) {
                for (int earlier = 0; earlier < later; earlier++) {
                    StringBuilder s = new StringBuilder();
                    for (int duck = 0; duck <= later; duck++) {
                        int place = duck == later ? earlier : duck;
                        s.append(duck == 0 ? "" : ";").append(chain).append((char) ('a' + place)).append("t1");
                    }
                    faultOfDucks(s.toString(), 5 * later + 1);
                    faultOfDucks(s.substring(0, s.length() - 2), 5 * later + 1);
                    s.setCharAt(5 * later, (char) ('0' + (chain + 1) % 3));
                    faultOfDucks(s.toString(), TinDucks.NONE);
                }
            }
        }
        faultOfDucks("0at1;0ah2;?", 6);
        faultOfDucks("0ax1;0at1", 2);
        faultOfDucks("0at1;1at1;2at1", TinDucks.NONE);
        faultOfDucks("0at1;1at1;2at1;1a", 16);
        TinDucks x = Told.of("", "0at1;0at2", "");
        due.is("with that FAULT there is no DUCK", x.count(0), 0);
        Told.text(x, 1, "0at1;0bt2");
        Told.text(x, 1, "0bt1;0at2");
        due.is("a DUCK that is told no more takes no PLACE", x.fault(1), TinDucks.NONE);
    }

    private static void faultOfDucks(String s, int want) {
        TinDucks x = new TinDucks();
        Told.text(x, 1, s);
        due.is("fault(1) of " + s, x.fault(1), want);
    }

    /** A text that is full has room for no such byte, not even for the ; ahead of it. */
    private static void oneTooMany() {
        String[] words = {"of the first byte of a fourth CHAIN", "of a thirteenth DUCK", "of a thirteenth SHOT"};
        for (int text = 0; text < 3; text++) {
            due.sentence(words[text]);
            TinDucks x = Told.full();
            due.is("type ;", x.type(text, ';'), TinDucks.FULL);
            due.is("type what it would begin with", x.type(text, Told.FULL_TEXTS[text].charAt(0)), TinDucks.FULL);
            due.is("those that there are stand", x.fault(text), TinDucks.NONE);
            due.is("DUCKS", x.count(0), 12);
            due.is("SHOTS", x.count(1), 12);
            due.is("CHAIN 2", x.chain(2), 3);
        }
    }

    private static void faultyIsEmpty() {
        due.sentence("With a FAULT a text is as if it was empty");
        for (int text = 0; text < 3; text++) {
            String well = Told.FULL_TEXTS[text];
            String[] faulty = {"?", well.substring(0, well.length() - 1), well.substring(0, well.length() - 1) + "?",
                "?" + well.substring(1), well.substring(0, SIGNS[text].length + 1), well.substring(0, SIGNS[text].length) + "?"};
            for (String s : faulty) {
                TinDucks x = Told.full();
                TinDucks empty = Told.full();
                Told.text(x, text, s);
                empty.wipe(text);
                due.holds("text " + text + " is " + s, Arrays.equals(answers(x), answers(empty)));
                due.is("its bytes are there", x.count(2), empty.count(2) + s.length());
                Told.text(x, text, well);
                due.holds("text " + text + " is well again", Arrays.equals(answers(x), answers(Told.full())));
            }
        }
    }

    /** What comes of the texts, by calls that answer something even where nothing is told. */
    private static long[] answers(TinDucks x) {
        return new long[] {
            x.chain(0), x.chain(1), x.chain(2), x.duck(0, 1), x.duck(11, 3), x.shot(0, 0), x.shot(11, 0),
            x.count(0), x.count(1), x.count(3), x.count(4), x.count(5), x.count(6), x.count(7),
            x.at(4, 0, 0), x.at(4, 11, 0), x.at(1, 0, 1), x.at(23, 1, 2), x.sees(0, 0, 1), x.sees(0, 1, 10), x.sees(3, 2, 0),
            x.down(1), x.down(2), x.down(23), x.hits(0, 0), x.hits(0, 1), x.hits(3, 2), x.sum(0), x.sum(1), x.sum(2),
            x.run(0), x.run(1), x.easy(), x.safe(), x.aim(1, 0), x.aim(1, 1), x.fire(11, 0), x.fire(11, 1), x.mend(0), x.mend(1),
            x.spare(-1), x.spare(0), x.might(0), x.might(1), x.kind(3), x.ask(), x.chance(7, 2, 0), x.chance(7, 2, 1),
            x.fairs(3, 12, 0), x.fairs(3, 12, 1),
        };
    }

    private static void chainsNotTold() {
        due.sentence("r1 of those not told");
        String[] chains = {"", "l2", "l2;r0", "l2;r0;l3"};
        int[] ways = {-2, 0, -3};
        for (int told = 0; told <= 3; told++) {
            TinDucks x = Told.of(chains[told], "0ft1;1ft1;2ft1", "");
            for (int chain = 0; chain < 3; chain++) {
                int way = chain < told ? ways[chain] : 1;
                due.is("chain(" + chain + ") of " + chains[told], x.chain(chain), way);
                due.is("and so it goes", x.at(0, chain, 0), 5 + way);
            }
        }
        TinDucks x = Told.of("l2;r0;l3", "", "");
        x.wipe(0);
        due.is("told no more: chain(0)", x.chain(0), 1);
        due.is("told no more: chain(2)", x.chain(2), 1);
    }

    private static void badChain() {
        due.sentence("BAD: the least int");
        TinDucks x = Told.of("l3;l3;l3", "", "");
        int[] bad = {Told.LEAST, -2, -1, 3, 4, 11, Told.GREATEST};
        for (int chain : bad) {
            due.is("chain(" + chain + ")", x.chain(chain), Integer.MIN_VALUE);
        }
        due.is("the last one that there is", x.chain(2), -3);
        due.is("of none told too", new TinDucks().chain(3), Integer.MIN_VALUE);
    }

    private static void partsOfDucks() {
        due.sentence("The CHAIN, PLACE, of what it is, WORTH of a DUCK as told. BAD");
        TinDucks x = Told.of("", "0at1;2lg9", "");
        int[][] want = {{0, 0, 0, 1}, {2, 11, 2, 9}};
        for (int duck = 0; duck < 2; duck++) {
            for (int what = 0; what < 4; what++) {
                due.is("duck(" + duck + ", " + what + ")", x.duck(duck, what), want[duck][what]);
            }
        }
        due.is("the first that is not told", x.duck(2, 0), TinDucks.BAD);
        x = Told.full();
        due.is("the twelfth", x.duck(11, 1), 11);
        due.is("a thirteenth", x.duck(12, 1), TinDucks.BAD);
        due.is("none ahead of the first", x.duck(-1, 1), TinDucks.BAD);
        due.is("what = 4", x.duck(11, 4), TinDucks.BAD);
        due.is("what = -1", x.duck(11, -1), TinDucks.BAD);
        x.undo(1);
        due.is("with a FAULT", x.duck(0, 1), TinDucks.BAD);
    }

    private static void partsOfShots() {
        due.sentence("The TICK, CHAIN, COLUMN of a SHOT as told. BAD");
        TinDucks x = Told.of("", "", "a00;x25");
        int[][] want = {{0, 0, 0}, {23, 2, 5}};
        for (int shot = 0; shot < 2; shot++) {
            for (int what = 0; what < 3; what++) {
                due.is("shot(" + shot + ", " + what + ")", x.shot(shot, what), want[shot][what]);
            }
        }
        due.is("the first that is not told", x.shot(2, 0), TinDucks.BAD);
        x = Told.full();
        due.is("the twelfth", x.shot(11, 0), 23);
        due.is("a thirteenth", x.shot(12, 0), TinDucks.BAD);
        due.is("none ahead of the first", x.shot(-1, 0), TinDucks.BAD);
        due.is("what = 3", x.shot(11, 3), TinDucks.BAD);
        due.is("what = -1", x.shot(11, -1), TinDucks.BAD);
        x.undo(2);
        due.is("with a FAULT", x.shot(0, 0), TinDucks.BAD);
    }
}
