import java.util.function.Consumer;
import java.util.function.Supplier;

/** Promises 38 and 39: count, digest. */
public final class CountAndDigestTest {
    private static final Due due = new Due();

    public static void main(String[] args) {
        counts();
        digests();
        due.end();
    }

    private static TinDucks gallery() {
        TinDucks x = Told.of("r1;l1;r2", "0ag3;0bh5;1ct7;2dt9;0ct2", "a01;a02;b03;c12;x00;b04;d05");
        x.rifle(1, 0);
        x.event(0, 1, 0);
        x.event(1, 2, 5);
        x.event(2, 3, 1);
        x.seen(1, 0, 1);
        x.seen(2, 3, 0);
        return x;
    }

    private static void counts() {
        TinDucks x = gallery();
        due.is("DUCKS", x.count(0), 5);
        due.is("SHOTS", x.count(1), 7);
        due.is("bytes", x.count(2), 8 + 24 + 27);
        due.is("EVENTS", x.count(3), 3);
        due.is("SCORE", x.count(4), x.sum(0));
        due.is("HITS", x.count(5), x.sum(1));
        due.is("DOWN behind 23", x.count(6), x.down(23));
        due.is("SEEN", x.count(7), 2);
        due.is("FINDING", x.count(8), 0);
        x.lose(0);
        due.is("NULL", x.count(8), 1);
        due.is("count(9)", x.count(9), TinDucks.BAD);
        due.is("count(-1)", x.count(-1), TinDucks.BAD);

        // the gum and the lead stand still: one down at the end, two hits, three for the score
        x = Told.of("r0", "0ag3;0bh5", "a00;a01;a05");
        due.is("SCORE", x.count(4), 3);
        due.is("HITS", x.count(5), 2);
        due.is("DOWN behind 23", x.count(6), 1);
    }

    private static long h;

    private static void add(long v) {
        h = 31 * h + v;
    }

    /** As the document tells it, by the other calls. */
    private static long digestByCalls(TinDucks x) {
        h = 17;
        for (int what = 0; what <= 7; what++) {
            add(x.count(what));
        }
        for (int text = 0; text < 3; text++) {
            add(x.fault(text));
        }
        for (int chain = 0; chain < 3; chain++) {
            add(x.chain(chain));
            for (int place = 0; place < 12; place++) {
                add(x.sees(10, chain, place));
            }
        }
        for (int tick = 0; tick < 24; tick++) {
            add(x.down(tick));
        }
        for (int duck = 0; duck < x.count(0); duck++) {
            for (int what = 0; what <= 3; what++) {
                add(x.duck(duck, what));
            }
            for (int tick : new int[] {0, 6, 13, 23}) {
                for (int what = 0; what <= 2; what++) {
                    add(x.at(tick, duck, what));
                }
            }
            add(x.kind(duck));
        }
        for (int shot = 0; shot < x.count(1); shot++) {
            addShot(x, shot);
        }
        for (int what = 0; what <= 2; what++) {
            add(x.sum(what));
        }
        long[] rest = {x.run(0), x.run(1), x.easy(), x.safe(), x.mend(0), x.mend(1), x.spare(-1), x.spare(0),
            x.might(0), x.might(1), x.ask(), x.fairs(7, 9, 0), x.fairs(7, 9, 1)};
        for (long v : rest) {
            add(v);
        }
        return h;
    }

    private static void addShot(TinDucks x, int shot) {
        for (int what = 0; what <= 2; what++) {
            add(x.shot(shot, what));
        }
        for (int what = 0; what <= 2; what++) {
            add(x.hits(shot, what));
        }
        add(x.aim(shot, 0));
        add(x.aim(shot, 1));
        add(x.fire(shot, 0));
        add(x.fire(shot, 1));
        add(x.chance(5, shot, 0));
        add(x.chance(5, shot, 1));
    }

    /** One object is asked for its digest, another made alike for all that is in it, as an object has 512 calls. */
    private static void digestIs(String what, Supplier<TinDucks> made) {
        due.is("digest() " + what, made.get().digest(), digestByCalls(made.get()));
    }

    private static TinDucks galleryAnd(Consumer<TinDucks> more) {
        TinDucks x = gallery();
        x.digest();
        more.accept(x);
        return x;
    }

    private static void digests() {
        digestIs("of a gallery", CountAndDigestTest::gallery);
        digestIs("again", () -> galleryAnd(TinDucks::digest));
        digestIs("by another PULL", () -> galleryAnd(x -> x.rifle(0, 3)));
        digestIs("with nothing SEEN", () -> galleryAnd(TinDucks::forget));
        digestIs("with a FAULT", () -> galleryAnd(x -> x.type(1, 0)));
        digestIs("of a new one", TinDucks::new);
        digestIs("with two to SPARE", () -> {
            TinDucks x = Told.of("r0", "0at1", "b00");
            x.rifle(1, 0);
            x.event(1, 1, 0);
            x.event(1, 1, 1);
            return x;
        });
        TinDucks x = gallery();
        long before = x.digest();
        x.lose(0);
        due.is("a FINDING is not in it", x.digest(), before);
        x.sheet(0, 0, 5);
        due.is("nor is a SHEET", x.digest(), before);
    }
}
