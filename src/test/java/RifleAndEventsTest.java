/** Promises 9 to 12: rifle, event, back, read. */
public final class RifleAndEventsTest {
    private static final Due due = new Due();

    public static void main(String[] args) {
        rifle();
        rifleMatters();
        events();
        eventsMatter();
        back();
        readsWhole();
        readsMore();
        readRefuses();
        due.end();
    }

    private static void rifle() {
        TinDucks x = new TinDucks();
        int was = 2;
        for (int v = 0; v <= 4; v++) {
            due.is("rifle(0, " + v + ")", x.rifle(0, v), was);
            was = v;
        }
        was = 1;
        for (int v = 0; v <= 3; v++) {
            due.is("rifle(1, " + v + ")", x.rifle(1, v), was);
            was = v;
        }
        due.is("rifle(0, 5)", x.rifle(0, 5), TinDucks.BAD);
        due.is("rifle(0, -1)", x.rifle(0, -1), TinDucks.BAD);
        due.is("rifle(1, 4)", x.rifle(1, 4), TinDucks.BAD);
        due.is("rifle(1, -1)", x.rifle(1, -1), TinDucks.BAD);
        due.is("rifle(2, 0)", x.rifle(2, 0), TinDucks.BAD);
        due.is("rifle(-1, 0)", x.rifle(-1, 0), TinDucks.BAD);
        due.is("PULL stands", x.rifle(0, 2), 4);
        due.is("FLIGHT stands", x.rifle(1, 1), 3);
    }

    private static void rifleMatters() {
        TinDucks x = Told.of("r0;r0;r0", "0at1;0bt2;0ct3;0dt4;0et5", "a02");
        for (int pull = 0; pull <= 4; pull++) {
            x.rifle(0, pull);
            due.is("PULL " + pull + " hits", x.hits(0, 1), pull);
        }
        for (int flight = 0; flight <= 3; flight++) {
            x.rifle(1, flight);
            due.is("FLIGHT " + flight + " comes", x.hits(0, 0), flight);
        }
    }

    private static void events() {
        TinDucks x = new TinDucks();
        due.is("event(-1, 0, 0)", x.event(-1, 0, 0), TinDucks.BAD);
        due.is("event(3, 0, 0)", x.event(3, 0, 0), TinDucks.BAD);
        due.is("event(0, -1, 0)", x.event(0, -1, 0), TinDucks.BAD);
        due.is("event(0, 24, 0)", x.event(0, 24, 0), TinDucks.BAD);
        due.is("event(0, 0, -1)", x.event(0, 0, -1), TinDucks.BAD);
        due.is("event(1, 0, 12)", x.event(1, 0, 12), TinDucks.BAD);
        due.is("count(3)", x.count(3), 0);
        for (int i = 1; i <= 8; i++) {
            due.is("event " + i, x.event(i % 3, 3 * i - 1, 11), i);
        }
        due.is("a ninth", x.event(0, 0, 0), TinDucks.FULL);
        due.is("a bad ninth", x.event(0, 24, 0), TinDucks.BAD);
        due.is("count(3)", x.count(3), 8);
    }

    private static void eventsMatter() {
        TinDucks x = Told.of("r1;l1;r2", "0at1;1at2;2at3", "a01");
        x.event(0, 2, 1);
        x.event(0, 2, 1);
        due.is("a CHAIN that JERKS twice in a TICK", x.at(2, 1, 0), 10);
        due.is("and goes on", x.at(3, 1, 0), 9);
        due.is("another CHAIN", x.at(2, 0, 0), 3);
        due.is("the third", x.at(2, 2, 0), 6);
        x.event(0, 0, 3);
        due.is("no such CHAIN", x.at(0, 0, 0), 1);
        x.event(0, 6, 2);
        x.event(0, 6, 0);
        due.is("two CHAINS that JERK in a TICK", x.at(6, 0, 0), x.at(5, 0, 0));
        due.is("two CHAINS that JERK in a TICK", x.at(6, 2, 0), x.at(5, 2, 0));
        due.is("not the third", x.at(6, 1, 0), x.at(7, 1, 0) + 1);
        x.back();
        x.back();
        x.rifle(1, 0);
        due.is("a SHOT without a DRAUGHT", x.hits(0, 1), 0);
        x.event(1, 0, 9);
        due.is("with one", x.hits(0, 1), TinDucks.NONE);
        Told.text(x, 2, "a00");
        due.is("one COLUMN less", x.hits(0, 1), 0);
        x.event(1, 0, 2);
        due.is("one, however many", x.hits(0, 1), 0);
        x.back();
        x.back();
        Told.text(x, 2, "a01");
        due.is("down behind 0", x.at(0, 0, 1), 2);
        due.is("down behind 1", x.at(1, 0, 1), 2);
        x.event(2, 1, 0);
        due.is("SET in 1: behind 0", x.at(0, 0, 1), 2);
        due.is("SET in 1: behind 1", x.at(1, 0, 1), 0);
        x.event(2, 0, 11);
        due.is("SET where there is no such DUCK", x.at(0, 0, 1), 2);
    }

    private static void back() {
        TinDucks x = Told.of("", "0at1", "");
        due.is("back() of none", x.back(), TinDucks.NOT);
        x.event(0, 0, 0);
        x.event(0, 1, 0);
        due.is("place with two jerks", x.at(1, 0, 0), 0);
        due.is("back()", x.back(), 1);
        due.is("the last is undone", x.at(1, 0, 0), 1);
        due.is("back()", x.back(), 0);
        due.is("both are", x.at(1, 0, 0), 2);
        due.is("back() of none", x.back(), TinDucks.NOT);
        due.is("count(3)", x.count(3), 0);
        x.event(0, 5, 0);
        due.is("in place of one undone: not in its TICK", x.at(0, 0, 0), 1);
        due.is("but in its own", x.at(5, 0, 0), 5);
        x.event(0, 7, 0);
        due.is("in place of both undone: not in their TICKS", x.at(4, 0, 0), 5);
        due.is("but in its own", x.at(7, 0, 0), 6);
    }

    private static void lay(TinDucks x, int s, int form, int... items) {
        x.sheet(s, form, items.length);
        for (int i = 0; i < items.length; i++) {
            x.lay(s, form, i, items[i]);
        }
    }

    private static void readsWhole() {
        for (int form = 0; form < 3; form++) {
            TinDucks x = Told.of("", "0at1", "");
            lay(x, 3, form, 0, 0, 0, 2, 5, 11, 0, 1, 0, 0, 2);
            due.is("read: three are whole", x.read(3), 3);
            due.is("count(3)", x.count(3), 3);
            due.is("their order", x.back(), 2);
            due.is("the last one is undone", x.at(1, 0, 0), 1);
            due.is("the first is not", x.at(0, 0, 0), 0);
        }
        TinDucks x = new TinDucks();
        lay(x, 0, 2, 2, 23, 11);
        due.is("read: three items are one", x.read(0), 1);
        x.back();
        lay(x, 0, 2, 0, 0, 0, 0, 24, 0, 0, 1, 0);
        due.is("read: as long as each may be", x.read(0), 1);
        lay(x, 0, 2, 0, 0, -1, 0, 1, 0);
        due.is("read: none may be", x.read(0), 0);
        lay(x, 0, 2, 1, 23, 12);
        due.is("read: none may be", x.read(0), 0);
        lay(x, 0, 2, 3, 0, 0);
        due.is("read: none may be", x.read(0), 0);
        lay(x, 0, 2, 0, 0);
        due.is("read: none is whole", x.read(0), 0);
        x.sheet(0, 0, 0);
        due.is("read: no item", x.read(0), 0);
        due.is("count(3)", x.count(3), 1);
        due.is("no FINDING", x.count(8), 0);
    }

    private static void readsMore() {
        TinDucks x = new TinDucks();
        x.sheet(0, 0, 60);
        due.is("read: 8 at most", x.read(0), 8);
        due.is("count(3)", x.count(3), 8);
        due.is("read: no room", x.read(0), 0);
        x.back();
        x.back();
        due.is("read: room for two", x.read(0), 2);
        due.is("count(3)", x.count(3), 8);
    }

    private static void readRefuses() {
        TinDucks x = new TinDucks();
        due.is("read(-1)", x.read(-1), TinDucks.BAD);
        due.is("read(4)", x.read(4), TinDucks.BAD);
        due.is("no FINDING", x.count(8), 0);
        due.is("read(2) of a LOST one", x.read(2), -11);
        due.is("count(8)", x.count(8), 1);
        due.is("count(3)", x.count(3), 0);
    }
}
