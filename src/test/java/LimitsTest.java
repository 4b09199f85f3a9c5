import java.util.function.Supplier;

/**
 * Each number that each call takes: the least and the greatest that it may be are taken; one less, one more and the ends of
 * int are refused as the document tells, and then nothing is changed but, by a FINDING, count() 8.
 */
public final class LimitsTest {
    private static final int NULL = -11, INDEX = -12, CAST = -13, SIZE = -15;
    private static final int BAD = TinDucks.BAD;
    private static final Due due = new Due();

    interface Call {
        long on(TinDucks x, int[] numbers);
    }

    private static String name;
    private static Call call;
    private static Supplier<TinDucks> made;
    private static int[] base;
    private static long refusal;

    public static void main(String[] args) {
        telling();
        asking();
        plans();
        whatMightBe();
        sheets();
        due.end();
    }

    /** What follows is of this call, with these numbers but for the one that is tried. */
    private static void of(String calls, Supplier<TinDucks> from, Call how, int... numbers) {
        name = calls;
        made = from;
        call = how;
        base = numbers;
        refusal = BAD;
    }

    private static void number(int which, int least, int greatest) {
        number(which, least, greatest, refusal, refusal);
    }

    private static void number(int which, int least, int greatest, long below, long above) {
        int[] low = {least - 1, Integer.MIN_VALUE};
        for (int v : low) {
            refused(which, v, below);
        }
        int[] high = {greatest + 1, Integer.MAX_VALUE};
        for (int v : high) {
            refused(which, v, above);
        }
        taken(which, least, below);
        taken(which, greatest, above);
    }

    private static int[] with(int which, int v) {
        int[] numbers = base.clone();
        numbers[which] = v;
        return numbers;
    }

    private static void refused(int which, int v, long want) {
        int[] numbers = with(which, v);
        String told = name + ", number " + which + " is " + v;
        TinDucks x = made.get();
        due.is(told, call.on(x, numbers), want);
        boolean finding = want <= NULL && want >= SIZE;
        due.is(told + ": count(8)", x.count(8), finding ? -10 - want : 0);
        due.holds(told + ": nothing is changed", Whole.isUnchangedBy(made, y -> call.on(y, numbers)));
    }

    private static void taken(int which, int v, long refused) {
        due.holds(name + ", number " + which + " may be " + v, call.on(made.get(), with(which, v)) != refused);
    }

    /** There is room for all; every text has bytes; all sheets are rows of shorts. */
    private static TinDucks open() {
        TinDucks x = Told.of("l2;r1", Told.FULL_TEXTS[1], Told.FULL_TEXTS[2]);
        x.event(1, 3, 0);
        x.seen(3, 3, 0);
        for (int s = 0; s < 4; s++) {
            x.sheet(s, 1, s == 3 ? 30 : 8);
            x.lay(s, 1, 5, 70 + s);
        }
        return x;
    }

    private static void telling() {
        Supplier<TinDucks> bytes = () -> Told.of("r1;", "0at1;", "a00;");
        of("type", bytes, (x, n) -> x.type(n[0], n[1]), 1, 59);
        number(0, 0, 2);
        number(1, 0, 255);
        of("wipe", bytes, (x, n) -> x.wipe(n[0]), 0);
        number(0, 0, 2);
        of("undo", bytes, (x, n) -> x.undo(n[0]), 0);
        number(0, 0, 2);
        of("fault", bytes, (x, n) -> x.fault(n[0]), 0);
        number(0, 0, 2);
        of("chain", bytes, (x, n) -> x.chain(n[0]), 0);
        refusal = Integer.MIN_VALUE;
        number(0, 0, 2);
        of("duck", LimitsTest::open, (x, n) -> x.duck(n[0], n[1]), 5, 1);
        number(0, 0, 11);
        number(1, 0, 3);
        of("shot", LimitsTest::open, (x, n) -> x.shot(n[0], n[1]), 5, 1);
        number(0, 0, 11);
        number(1, 0, 2);
        of("rifle", LimitsTest::open, (x, n) -> x.rifle(n[0], n[1]), 0, 3);
        number(0, 0, 1);
        number(1, 0, 4);
        of("rifle", LimitsTest::open, (x, n) -> x.rifle(n[0], n[1]), 1, 3);
        number(1, 0, 3);
        of("event", LimitsTest::open, (x, n) -> x.event(n[0], n[1], n[2]), 0, 4, 0);
        number(0, 0, 2);
        number(1, 0, 23);
        number(2, 0, 11);
        of("read", LimitsTest::open, (x, n) -> x.read(n[0]), 0);
        number(0, 0, 3);
    }

    private static void asking() {
        of("at", LimitsTest::open, (x, n) -> x.at(n[0], n[1], n[2]), 5, 5, 0);
        number(0, 0, 23);
        number(1, 0, 11);
        number(2, 0, 2);
        of("sees", LimitsTest::open, (x, n) -> x.sees(n[0], n[1], n[2]), 5, 1, 5);
        number(0, 0, 23);
        number(1, 0, 2);
        number(2, 0, 11);
        of("down", LimitsTest::open, (x, n) -> x.down(n[0]), 5);
        number(0, 0, 23);
        of("hits", LimitsTest::open, (x, n) -> x.hits(n[0], n[1]), 5, 0);
        number(0, 0, 11);
        number(1, 0, 2);
        of("sum", LimitsTest::open, (x, n) -> x.sum(n[0]), 0);
        number(0, 0, 2);
        of("run", LimitsTest::open, (x, n) -> x.run(n[0]), 0);
        number(0, 0, 1);
        of("count", LimitsTest::open, (x, n) -> x.count(n[0]), 0);
        number(0, 0, 8);
    }

    private static void plans() {
        of("aim", LimitsTest::open, (x, n) -> x.aim(n[0], n[1]), 5, 0);
        number(0, 0, 11);
        number(1, 0, 1);
        of("fire", LimitsTest::open, (x, n) -> x.fire(n[0], n[1]), 5, 0);
        number(0, 0, 11);
        number(1, 0, 1);
        of("mend", LimitsTest::open, (x, n) -> x.mend(n[0]), 0);
        number(0, 0, 1);
        of("spare", LimitsTest::open, (x, n) -> x.spare(n[0]), 0);
        number(0, -1, 1);
    }

    private static void whatMightBe() {
        of("seen", LimitsTest::open, (x, n) -> x.seen(n[0], n[1], n[2]), 5, 5, 0);
        number(0, 0, 23);
        number(1, 0, 11);
        number(2, 0, 1);
        of("might", LimitsTest::open, (x, n) -> x.might(n[0]), 0);
        number(0, 0, 1);
        of("kind", LimitsTest::open, (x, n) -> x.kind(n[0]), 0);
        number(0, 0, 11);
        of("chance", LimitsTest::open, (x, n) -> x.chance(n[0], n[1], n[2]), 5, 5, 0);
        refusal = Told.LEAST_LONG_BAD;
        number(0, 0, 16);
        number(1, 0, 11);
        number(2, 0, 1);
        of("fairs", LimitsTest::open, (x, n) -> x.fairs(n[0], n[1], n[2]), 5, 5, 0);
        taken(0, Integer.MIN_VALUE, BAD);
        taken(0, Integer.MAX_VALUE, BAD);
        number(1, 0, 12);
        number(2, 0, 1);
    }

    private static void sheets() {
        of("sheet", LimitsTest::open, (x, n) -> x.sheet(n[0], n[1], n[2]), 1, 2, 5);
        number(0, 0, 3);
        number(1, 0, 2);
        number(2, 0, 60, SIZE, BAD);
        of("lose", LimitsTest::open, (x, n) -> x.lose(n[0]), 1);
        number(0, 0, 3);
        of("lay", LimitsTest::open, (x, n) -> x.lay(n[0], n[1], n[2], n[3]), 1, 1, 5, 6);
        number(0, 0, 3);
        number(1, 0, 2);
        number(2, 0, 7, INDEX, INDEX);
        taken(3, Integer.MIN_VALUE, BAD);
        taken(3, Integer.MAX_VALUE, BAD);
        refused(1, 0, CAST);
        refused(1, 2, CAST);
        of("get", LimitsTest::open, (x, n) -> leastOr(x.get(n[0], n[1], n[2]), x.count(8)), 1, 1, 5);
        number(0, 0, 3);
        number(1, 0, 2);
        number(2, 0, 7, INDEX, INDEX);
        refused(1, 0, CAST);
        refused(1, 2, CAST);
        of("copy", LimitsTest::open, (x, n) -> x.copy(n[0], n[1], n[2], n[3], n[4]), 1, 3, 2, 4, 2);
        number(0, 0, 3);
        number(1, 0, 6, INDEX, INDEX);
        number(2, 0, 3);
        number(3, 0, 6, INDEX, INDEX);
        number(4, 0, 4, INDEX, INDEX);
        of("write", LimitsTest::open, (x, n) -> x.write(n[0], n[1]), 5, 1);
        number(0, 0, 11);
        number(1, 0, 3);
    }

    /** What a refusal of get would be, were it not the least int. */
    private static long leastOr(int item, int finding) {
        if (item != Integer.MIN_VALUE) {
            return item;
        }
        return finding == 0 ? BAD : -10 - finding;
    }
}
