import java.util.LinkedHashMap;
import java.util.Map;
import java.util.function.Consumer;
import java.util.function.ToLongFunction;

/** Whatever was told last and whatever is asked first, the answer is that of an object told all at once. */
public final class FirstAskedTest {
    private static final Due due = new Due();
    private static final Map<String, Consumer<TinDucks>> TELL = new LinkedHashMap<>();
    private static final Map<String, ToLongFunction<TinDucks>> ASK = new LinkedHashMap<>();

    static {
        TELL.put("type", x -> {
            x.type(0, ';');
            x.type(0, 'l');
            x.type(0, '3');
        });
        TELL.put("wipe(0)", x -> x.wipe(0));
        TELL.put("wipe(1)", x -> x.wipe(1));
        TELL.put("undo(2)", x -> {
            for (int i = 0; i < 4; i++) {
                x.undo(2);
            }
        });
        TELL.put("rifle(0, 3)", x -> x.rifle(0, 3));
        TELL.put("rifle(1, 2)", x -> x.rifle(1, 2));
        TELL.put("event", x -> x.event(0, 1, 0));
        TELL.put("back", x -> x.back());
        TELL.put("read", x -> x.read(0));
        TELL.put("seen", x -> x.seen(3, 1, 0));
        TELL.put("forget", x -> x.forget());
        ASK.put("fault(0)", x -> x.fault(0));
        ASK.put("chain(1)", x -> x.chain(1));
        ASK.put("duck(1, 3)", x -> x.duck(1, 3));
        ASK.put("shot(3, 2)", x -> x.shot(3, 2));
        ASK.put("at(5, 1, 0)", x -> x.at(5, 1, 0));
        ASK.put("at(1, 0, 1)", x -> x.at(1, 0, 1));
        ASK.put("at(23, 1, 2)", x -> x.at(23, 1, 2));
        ASK.put("sees(1, 0, 2)", x -> x.sees(1, 0, 2));
        ASK.put("down(2)", x -> x.down(2));
        ASK.put("hits(0, 0)", x -> x.hits(0, 0));
        ASK.put("hits(1, 1)", x -> x.hits(1, 1));
        ASK.put("sum(0)", x -> x.sum(0));
        ASK.put("run(0)", x -> x.run(0));
        ASK.put("easy()", x -> x.easy());
        ASK.put("safe()", x -> x.safe());
        ASK.put("aim(2, 0)", x -> x.aim(2, 0));
        ASK.put("fire(2, 1)", x -> x.fire(2, 1));
        ASK.put("mend(1)", x -> x.mend(1));
        ASK.put("spare(-1)", x -> x.spare(-1));
        ASK.put("might(0)", x -> x.might(0));
        ASK.put("might(1)", x -> x.might(1));
        ASK.put("kind(0)", x -> x.kind(0));
        ASK.put("ask()", x -> x.ask());
        ASK.put("chance(3, 1, 0)", x -> x.chance(3, 1, 0));
        ASK.put("fairs(9, 12, 0)", x -> x.fairs(9, 12, 0));
        ASK.put("write(1, 1)", x -> {
            x.write(1, 1);
            return 1000 * x.get(1, 2, 1) + 100 * x.get(1, 2, 2) + 10 * x.get(1, 2, 3) + x.get(1, 2, 4);
        });
        ASK.put("count(0)", x -> x.count(0));
        ASK.put("count(4)", x -> x.count(4));
        ASK.put("count(6)", x -> x.count(6));
        ASK.put("digest()", x -> x.digest());
    }

    public static void main(String[] args) {
        for (Map.Entry<String, Consumer<TinDucks>> tell : TELL.entrySet()) {
            for (Map.Entry<String, ToLongFunction<TinDucks>> ask : ASK.entrySet()) {
                TinDucks first = gallery();
                first.digest();
                tell.getValue().accept(first);
                TinDucks later = gallery();
                tell.getValue().accept(later);
                later.digest();
                String call = tell.getKey() + ", then " + ask.getKey();
                due.is(call, ask.getValue().applyAsLong(first), ask.getValue().applyAsLong(later));
            }
        }
        due.end();
    }

    private static TinDucks gallery() {
        TinDucks x = Told.of("r1;r0", "0at3;0bh5;0ct7;1dt2", "a02;b03;a03;a13");
        x.event(1, 2, 0);
        x.event(2, 3, 0);
        x.seen(1, 0, 1);
        x.sheet(0, 0, 3);
        x.sheet(1, 2, 24);
        return x;
    }
}
