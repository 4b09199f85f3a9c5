import java.util.function.Supplier;
import java.util.function.ToLongFunction;

/** 'Refusals, the first that fits, in the order told at each act .. They change nothing (FINDINGS but count() 8).' */
public final class RefusalsTest {
    private static final int BAD = TinDucks.BAD, NOT = TinDucks.NOT, FULL = TinDucks.FULL;
    private static final int NULL = -11, INDEX = -12, CAST = -13, STORE = -14, SIZE = -15;
    private static final Due due = new Due();

    public static void main(String[] args) {
        ofFullThings();
        ofNothing();
        ofLostSheets();
        ofSheets();
        badAheadOfAll();
        due.end();
    }

    /** Whether it is refused so, before any FINDING and behind one of another number; and whether all is as it was. */
    private static void refused(String call, Supplier<TinDucks> made, ToLongFunction<TinDucks> done, long want) {
        refused(call, made, done, want, want <= NULL && want >= SIZE ? (int) (-10 - want) : 0);
    }

    private static void refused(String call, Supplier<TinDucks> made, ToLongFunction<TinDucks> done, long want, int finding) {
        TinDucks x = made.get();
        due.is(call, done.applyAsLong(x), want);
        due.is(call + ": count(8)", x.count(8), finding);
        int other = finding == 1 ? 5 : 1;
        Supplier<TinDucks> found = () -> behindFinding(made.get(), other);
        x = found.get();
        due.is(call + " behind a FINDING", done.applyAsLong(x), want);
        due.is(call + " behind a FINDING: count(8)", x.count(8), finding == 0 ? other : finding);
        due.holds(call + ": nothing is changed", Whole.isUnchangedBy(made, done::applyAsLong));
        due.holds(call + " behind a FINDING: nothing is changed", Whole.isUnchangedBy(found, done::applyAsLong));
    }

    private static TinDucks behindFinding(TinDucks x, int number) {
        if (number == 5) {
            x.sheet(0, 0, -1);
        } else {
            x.lose(3);
        }
        return x;
    }

    private static void ofFullThings() {
        due.sentence("FULL -4");
        for (int text = 0; text < 3; text++) {
            int t = text;
            refused("type(" + t + ", 59)", Told::full, x -> x.type(t, 59), FULL);
            refused("type(" + t + ", 256)", Told::full, x -> x.type(t, 256), BAD);
        }
        refused("event(0, 0, 0)", Told::full, x -> x.event(0, 0, 0), FULL);
        refused("event(3, 0, 0)", Told::full, x -> x.event(3, 0, 0), BAD);
        refused("event(0, 24, 0)", Told::full, x -> x.event(0, 24, 0), BAD);
        refused("event(0, 0, 12)", Told::full, x -> x.event(0, 0, 12), BAD);
        refused("seen(0, 0, 0)", Told::full, x -> x.seen(0, 0, 0), FULL);
        refused("seen(24, 0, 0)", Told::full, x -> x.seen(24, 0, 0), BAD);
        refused("seen(0, 12, 0)", Told::full, x -> x.seen(0, 12, 0), BAD);
        refused("seen(0, 0, 2)", Told::full, x -> x.seen(0, 0, 2), BAD);
    }

    private static void ofNothing() {
        due.sentence("NOT -3 (as told)");
        for (int text = 0; text < 3; text++) {
            int t = text;
            refused("undo(" + t + ")", TinDucks::new, x -> x.undo(t), NOT);
        }
        refused("back()", TinDucks::new, TinDucks::back, NOT);
        due.sentence("BAD -2 (.. no such thing)");
        refused("undo(3)", TinDucks::new, x -> x.undo(3), BAD);
        refused("duck(0, 0)", TinDucks::new, x -> x.duck(0, 0), BAD);
        refused("shot(0, 0)", TinDucks::new, x -> x.shot(0, 0), BAD);
        refused("at(0, 0, 0)", TinDucks::new, x -> x.at(0, 0, 0), BAD);
        refused("hits(0, 0)", TinDucks::new, x -> x.hits(0, 0), BAD);
        refused("aim(0, 0)", TinDucks::new, x -> x.aim(0, 0), BAD);
        refused("fire(0, 0)", TinDucks::new, x -> x.fire(0, 0), BAD);
        refused("kind(0)", TinDucks::new, x -> x.kind(0), BAD);
        refused("chance(5, 0, 0)", TinDucks::new, x -> x.chance(5, 0, 0), Told.LEAST_LONG_BAD);
        refused("write(0, 0)", TinDucks::new, x -> x.write(0, 0), BAD);
    }

    private static void ofLostSheets() {
        due.sentence("1 NULL: the SHEET is LOST");
        refused("read(3)", Told::full, x -> x.read(3), NULL);
        refused("lose(3)", Told::full, x -> x.lose(3), NULL);
        refused("lay(3, 0, 0, 0)", Told::full, x -> x.lay(3, 0, 0, 0), NULL);
        refused("get(3, 0, 0)", Told::full, x -> x.get(3, 0, 0), Told.LEAST, 1);
        refused("copy(3, 0, 0, 0, 0)", Told::full, x -> x.copy(3, 0, 0, 0, 0), NULL);
        refused("copy(0, 0, 3, 0, 0)", Told::full, x -> x.copy(0, 0, 3, 0, 0), NULL);
        refused("write(0, 3)", Told::full, x -> x.write(0, 3), NULL);
    }

    private static void ofSheets() {
        due.sentence("2 INDEX: there is no such item");
        refused("lay(1, 1, 4, 9)", Told::full, x -> x.lay(1, 1, 4, 9), INDEX);
        refused("lay(2, 2, 0, 9)", Told::full, x -> x.lay(2, 2, 0, 9), INDEX);
        refused("get(1, 1, -1)", Told::full, x -> x.get(1, 1, -1), Told.LEAST, 2);
        refused("get(0, 0, 60)", Told::full, x -> x.get(0, 0, 60), Told.LEAST, 2);
        refused("copy(0, 0, 0, 1, 60)", Told::full, x -> x.copy(0, 0, 0, 1, 60), INDEX);
        refused("copy(1, 1, 1, 0, 4)", Told::full, x -> x.copy(1, 1, 1, 0, 4), INDEX);
        refused("copy(1, 0, 1, 1, -1)", Told::full, x -> x.copy(1, 0, 1, 1, -1), INDEX);
        due.sentence("3 CAST: it has another FORM");
        refused("lay(1, 0, 4, 9)", Told::full, x -> x.lay(1, 0, 4, 9), CAST);
        refused("lay(0, 2, 0, 9)", Told::full, x -> x.lay(0, 2, 0, 9), CAST);
        refused("get(2, 1, 0)", Told::full, x -> x.get(2, 1, 0), Told.LEAST, 3);
        due.sentence("4 STORE: unlike FORMS");
        refused("copy(0, 0, 1, 0, 1)", Told::full, x -> x.copy(0, 0, 1, 0, 1), STORE);
        refused("copy(1, 9, 2, 0, 1)", Told::full, x -> x.copy(1, 9, 2, 0, 1), STORE);
        due.sentence("5 SIZE: below 0");
        refused("sheet(0, 2, -1)", Told::full, x -> x.sheet(0, 2, -1), SIZE);
        refused("sheet(3, 0, -1)", Told::full, x -> x.sheet(3, 0, -1), SIZE);
    }

    private static void badAheadOfAll() {
        due.sentence("BAD -2, NULL, NOT -3, FULL -4, other FINDINGS: BAD is the first");
        refused("type(3, 59)", Told::full, x -> x.type(3, 59), BAD);
        refused("lay(3, 3, 0, 0)", Told::full, x -> x.lay(3, 3, 0, 0), BAD);
        refused("lay(1, 3, 9, 0)", Told::full, x -> x.lay(1, 3, 9, 0), BAD);
        refused("lay(4, 0, 9, 0)", Told::full, x -> x.lay(4, 0, 9, 0), BAD);
        refused("get(3, 3, 0)", Told::full, x -> x.get(3, 3, 0), Told.LEAST, 0);
        refused("get(4, 0, 0)", Told::full, x -> x.get(4, 0, 0), Told.LEAST, 0);
        refused("get(1, -1, 9)", Told::full, x -> x.get(1, -1, 9), Told.LEAST, 0);
        refused("copy(3, 0, 4, 0, 0)", Told::full, x -> x.copy(3, 0, 4, 0, 0), BAD);
        refused("copy(-1, 0, 3, 0, 0)", Told::full, x -> x.copy(-1, 0, 3, 0, 0), BAD);
        refused("write(12, 3)", Told::full, x -> x.write(12, 3), BAD);
        refused("sheet(4, 0, -1)", Told::full, x -> x.sheet(4, 0, -1), BAD);
        refused("sheet(0, 3, -1)", Told::full, x -> x.sheet(0, 3, -1), BAD);
        refused("sheet(0, 0, 61)", Told::full, x -> x.sheet(0, 0, 61), BAD);
    }
}
