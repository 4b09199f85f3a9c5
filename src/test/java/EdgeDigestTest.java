import java.math.BigInteger;
import java.util.ArrayList;
import java.util.List;
import java.util.function.Supplier;
import java.util.function.ToLongFunction;

/** Promise 39 and the number of calls: each sentence that names a boundary case, by itself. */
public final class EdgeDigestTest {
    private static final Due due = new Due();

    public static void main(String[] args) {
        longsThatWrap();
        eachOf();
        notInIt();
        changesNothing();
        calls512();
        due.end();
    }

    /** What digest() tells of, one number behind another, by other calls; each part from an object of its own. */
    private static List<Long> numbers(Supplier<TinDucks> made) {
        List<Long> all = new ArrayList<>();
        TinDucks x = made.get();
        for (int what = 0; what <= 7; what++) {
            all.add((long) x.count(what));
        }
        for (int text = 0; text < 3; text++) {
            all.add((long) x.fault(text));
        }
        for (int chain = 0; chain < 3; chain++) {
            all.add((long) x.chain(chain));
            for (int place = 0; place <= 11; place++) {
                all.add((long) x.sees(10, chain, place));
            }
        }
        for (int tick = 0; tick <= 23; tick++) {
            all.add((long) x.down(tick));
        }
        addDucks(all, made.get());
        addShots(all, made.get());
        x = made.get();
        int[] rest = {x.sum(0), x.sum(1), x.sum(2), x.run(0), x.run(1), x.easy(), x.safe(), x.mend(0), x.mend(1),
            x.spare(TinDucks.NONE), x.spare(0), x.might(0), x.might(1), x.ask(), x.fairs(7, 9, 0), x.fairs(7, 9, 1)};
        for (int number : rest) {
            all.add((long) number);
        }
        return all;
    }

    private static void addDucks(List<Long> all, TinDucks x) {
        int ducks = x.count(0);
        int[] ticks = {0, 6, 13, 23};
        for (int duck = 0; duck < ducks; duck++) {
            for (int what = 0; what <= 3; what++) {
                all.add((long) x.duck(duck, what));
            }
            for (int tick : ticks) {
                for (int what = 0; what <= 2; what++) {
                    all.add((long) x.at(tick, duck, what));
                }
            }
            all.add((long) x.kind(duck));
        }
    }

    private static void addShots(List<Long> all, TinDucks x) {
        int shots = x.count(1);
        for (int shot = 0; shot < shots; shot++) {
            for (int what = 0; what <= 2; what++) {
                all.add((long) x.shot(shot, what));
            }
            for (int what = 0; what <= 2; what++) {
                all.add((long) x.hits(shot, what));
            }
            long[] plans = {x.aim(shot, 0), x.aim(shot, 1), x.fire(shot, 0), x.fire(shot, 1), x.chance(5, shot, 0), x.chance(5, shot, 1)};
            for (long number : plans) {
                all.add(number);
            }
        }
    }

    /** Worked out without wrapping, then cut to a long. */
    private static long digestOf(List<Long> numbers) {
        BigInteger h = BigInteger.valueOf(17);
        for (long number : numbers) {
            h = h.multiply(BigInteger.valueOf(31)).add(BigInteger.valueOf(number));
        }
        return h.longValue();
    }

    private static void digestIs(String what, Supplier<TinDucks> made) {
        due.is("digest() of " + what, made.get().digest(), digestOf(numbers(made)));
    }

    private static void longsThatWrap() {
        due.sentence("as longs that wrap");
        digestIs("a new object", TinDucks::new);
        digestIs("a full one", Told::full);
        due.is("how many numbers of a full one", numbers(Told::full).size(), 8 + 3 + 39 + 24 + 12 * 17 + 12 * 12 + 16);
        due.is("how many numbers of a new one", numbers(TinDucks::new).size(), 8 + 3 + 39 + 24 + 16);
    }

    private static void eachOf() {
        due.sentence("h becomes 31 h and each of");
        digestIs("no DUCKS", () -> Told.of("l3", "", "a00;x25"));
        digestIs("no SHOTS", () -> Told.of("l3", "0at1;2lg9", ""));
        digestIs("FAULTS", () -> Told.of("l3;", "0at1;2lg9;0a", "a00;x"));
        digestIs("one to SPARE", () -> {
            TinDucks x = Told.still("0at1", "a00");
            x.event(1, 0, 0);
            return x;
        });
        digestIs("two to SPARE", () -> {
            TinDucks x = Told.still("0at1;0bt1", "a00;c01");
            x.event(2, 9, 0);
            x.event(1, 2, 0);
            x.event(1, 2, 0);
            return x;
        });
        digestIs("what was SEEN", () -> {
            TinDucks x = Told.still("0ct1;0bh1", "a00;a00;b01");
            x.event(1, 0, 0);
            x.seen(23, 1, 0);
            return x;
        });
        for (int pull = 0; pull <= 4; pull++) {
            int v = pull;
            digestIs("PULL " + v, () -> {
                TinDucks x = Told.full();
                x.rifle(0, v);
                x.rifle(1, v % 4);
                x.forget();
                return x;
            });
        }
    }

    private static void notInIt() {
        due.sentence("count() 0 to 7");
        TinDucks x = Told.full();
        long before = x.digest();
        x.get(3, 0, 0);
        due.is("a FINDING", x.digest(), before);
        x.sheet(3, 2, 60);
        x.lay(3, 2, 0, 77);
        due.is("a SHEET", x.digest(), before);
        x.forget();
        due.holds("SEEN are in it", x.digest() != before);
    }

    private static void changesNothing() {
        due.sentence("digest() changes nothing");
        due.holds("of a full one", Whole.isUnchangedBy(Told::full, TinDucks::digest));
        due.holds("of a new one", Whole.isUnchangedBy(TinDucks::new, TinDucks::digest));
        TinDucks x = Told.full();
        due.is("again", x.digest(), x.digest());
    }

    /** On a full object each of these is refused or tells something, whatever was asked before. */
    private static final List<ToLongFunction<TinDucks>> LAST = List.of(
        TinDucks::digest, x -> x.type(0, 'r'), x -> x.wipe(1), x -> x.undo(2), x -> x.fault(0), x -> x.chain(2), x -> x.duck(11, 3),
        x -> x.shot(11, 0), x -> x.rifle(0, 1), x -> x.event(0, 0, 0), TinDucks::back, x -> x.read(0), x -> x.at(23, 3, 2),
        x -> x.sees(23, 1, 4), x -> x.down(2), x -> x.hits(3, 1), x -> x.sum(0), x -> x.run(0), TinDucks::easy, TinDucks::safe,
        x -> x.aim(4, 1), x -> x.fire(4, 1), x -> x.mend(1), x -> x.spare(-1), x -> x.seen(0, 0, 0), TinDucks::forget,
        x -> x.might(1), x -> x.kind(0), TinDucks::ask, x -> x.chance(5, 0, 0), x -> x.fairs(7, 9, 0), x -> x.sheet(3, 2, 60),
        x -> x.lose(0), x -> x.lay(1, 1, 3, 5), x -> x.get(1, 1, 2), x -> x.copy(0, 0, 0, 1, 59), x -> x.write(0, 0), x -> x.count(4));

    private static void calls512() {
        due.sentence("An object is used for at most 512 calls after it has been made");
        for (int last = 0; last < LAST.size(); last++) {
            TinDucks x = Told.full();
            // of full(): 3 wipes, 114 bytes, 8 events, 8 seen, 3 sheets, 8 items
            for (int call = 3 + 114 + 16 + 3 + 8; call < 511; call++) {
                ask(x, call);
            }
            long want = LAST.get(last).applyAsLong(Told.full());
            due.is("the 512th call, " + last, LAST.get(last).applyAsLong(x), want);
        }
        TinDucks x = new TinDucks();
        for (int call = 1; call <= 512; call += 2) {
            due.is("call " + call, x.event(0, 0, 0), 1);
            due.is("call " + (call + 1), x.back(), 0);
        }
    }

    private static void ask(TinDucks x, int call) {
        switch (call % 8) {
            case 0: x.aim(call % 12, 0); break;
            case 1: x.at(call % 24, call % 12, 1); break;
            case 2: x.type(call % 3, 256); break;
            case 3: x.rifle(call % 16 < 8 ? 0 : 1, call % 16 < 8 ? 2 : 1); break;
            case 4: x.fairs(call, 12, 0); break;
            case 5: x.seen(0, 0, 0); break;
            case 6: x.might(call % 2); break;
            default: x.lay(1, 1, 4, 0);
        }
    }
}
