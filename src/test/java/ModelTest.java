import java.util.Random;

/** All promises at once: random runs of calls, each answer held against that of Model. */
public final class ModelTest {
    private static final int RUNS = 150;
    /** An object has 512 calls; one step of a run takes 64 of them at most. */
    private static final int CALLS = 512, CALLS_OF_A_STEP = 64;
    private static final Due due = new Due();

    private final Random random;
    private final int number;
    private final TinDucks x = new TinDucks();
    private final Model m = new Model();
    private int calls;

    private ModelTest(int number) {
        this.number = number;
        this.random = new Random(number);
    }

    public static void main(String[] args) {
        for (int run = 0; run < RUNS; run++) {
            new ModelTest(run).play();
        }
        due.end();
    }

    private void play() {
        typeAll(0, chains());
        typeAll(1, ducks());
        typeAll(2, shots());
        while (calls + CALLS_OF_A_STEP < CALLS) {
            call(random.nextInt(46));
        }
        while (calls < CALLS - 1) {
            int what = calls % 10;
            is("count(" + what + ")", x.count(what), m.count(what));
        }
        is("digest(), the last call", x.digest(), m.digest());
        due.is("calls", calls, CALLS);
    }

    /** Of one call each. */
    private void is(String call, long got, long want) {
        calls++;
        due.is("run " + number + ": " + call, got, want);
    }

    private void typeAll(int text, String s) {
        is("wipe(" + text + ")", x.wipe(text), m.wipe(text));
        for (int i = 0; i < s.length(); i++) {
            is("type " + s, x.type(text, s.charAt(i)), m.type(text, s.charAt(i)));
        }
        is("fault of " + s, x.fault(text), m.fault(text));
    }

    private char one(String signs) {
        return signs.charAt(random.nextInt(signs.length()));
    }

    private String chains() {
        StringBuilder s = new StringBuilder();
        int n = random.nextInt(4);
        for (int i = 0; i < n; i++) {
            s.append(i == 0 ? "" : ";").append(one("rl")).append(one("0123"));
        }
        return s.toString();
    }

    private String ducks() {
        StringBuilder s = new StringBuilder();
        int n = random.nextInt(13);
        for (int i = 0; i < n; i++) {
            String at = "";
            for (int tries = 0; tries < 50; tries++) {
                at = "" + one("012") + one("abcdefghijkl");
                if ((";" + s).indexOf(";" + at) < 0) {
                    break;
                }
            }
            s.append(i == 0 ? "" : ";").append(at).append(one("thgg")).append(one("123456789"));
        }
        return s.toString();
    }

    private String shots() {
        StringBuilder s = new StringBuilder();
        int n = random.nextInt(13);
        String ticks = random.nextBoolean() ? "abcdef" : "abcdefghijklmnopqrstuvwx";
        for (int i = 0; i < n; i++) {
            s.append(i == 0 ? "" : ";").append(one(ticks)).append(one("0012")).append(one("012345"));
        }
        return s.toString();
    }

    /** Mostly a number from 0 to one less than the end, else one about it, else any. */
    private int upTo(int end) {
        switch (random.nextInt(30)) {
            case 0: return -1;
            case 1: return end;
            case 2: return random.nextInt(70) - 5;
            case 3: return random.nextInt();
            default: return random.nextInt(end);
        }
    }

    private void call(int which) {
        if (which < 14) {
            tell(which);
        } else if (which < 23) {
            askTicks(which);
        } else if (which < 36) {
            askPlans(which);
        } else {
            useSheets(which);
        }
    }

    private void tell(int which) {
        int a = upTo(3);
        int b;
        int c;
        switch (which) {
            case 0: b = upTo(256); is("type(" + a + ", " + b + ")", x.type(a, b), m.type(a, b)); break;
            case 1: is("undo(" + a + ")", x.undo(a), m.undo(a)); break;
            case 2: is("fault(" + a + ")", x.fault(a), m.fault(a)); break;
            case 3: is("chain(" + a + ")", x.chain(a), m.chain(a)); break;
            case 4: a = upTo(12); b = upTo(4); is("duck(" + a + ", " + b + ")", x.duck(a, b), m.duck(a, b)); break;
            case 5: a = upTo(12); b = upTo(3); is("shot(" + a + ", " + b + ")", x.shot(a, b), m.shot(a, b)); break;
            case 6: a = upTo(2); b = upTo(5); is("rifle(" + a + ", " + b + ")", x.rifle(a, b), m.rifle(a, b)); break;
            case 7:
            case 8: b = upTo(random.nextBoolean() ? 6 : 24); c = upTo(random.nextBoolean() ? 3 : 12);
                is("event(" + a + ", " + b + ", " + c + ")", x.event(a, b, c), m.event(a, b, c)); break;
            case 9: is("back()", x.back(), m.back()); break;
            case 10: a = upTo(4); is("read(" + a + ")", x.read(a), m.read(a)); break;
            case 11: typeAll(0, chains()); break;
            case 12: typeAll(1, ducks()); break;
            default: typeAll(2, shots());
        }
    }

    private void askTicks(int which) {
        int a = upTo(24);
        int b = upTo(12);
        int c = upTo(3);
        switch (which) {
            case 14:
            case 15: is("at(" + a + ", " + b + ", " + c + ")", x.at(a, b, c), m.at(a, b, c)); break;
            case 16: is("sees(" + a + ", " + c + ", " + b + ")", x.sees(a, c, b), m.sees(a, c, b)); break;
            case 17: is("down(" + a + ")", x.down(a), m.down(a)); break;
            case 18: is("hits(" + b + ", " + c + ")", x.hits(b, c), m.hits(b, c)); break;
            case 19: is("sum(" + c + ")", x.sum(c), m.sum(c)); break;
            case 20: is("run(" + c + ")", x.run(c), m.run(c)); break;
            case 21: is("easy()", x.easy(), m.easy()); break;
            default: is("safe()", x.safe(), m.safe());
        }
    }

    private void askPlans(int which) {
        int a = upTo(12);
        int b = upTo(2);
        int c = upTo(17);
        int t = upTo(24);
        switch (which) {
            case 23: is("aim(" + a + ", " + b + ")", x.aim(a, b), m.aim(a, b)); break;
            case 24: is("fire(" + a + ", " + b + ")", x.fire(a, b), m.fire(a, b)); break;
            case 25: is("mend(" + b + ")", x.mend(b), m.mend(b)); break;
            case 26: b = upTo(4) - 1; is("spare(" + b + ")", x.spare(b), m.spare(b)); break;
            case 27:
            case 28: is("seen(" + t + ", " + a + ", " + b + ")", x.seen(t, a, b), m.seen(t, a, b)); break;
            case 29: is("forget()", x.forget(), m.forget()); break;
            case 30: is("might(" + b + ")", x.might(b), m.might(b)); break;
            case 31: is("kind(" + a + ")", x.kind(a), m.kind(a)); break;
            case 32: is("ask()", x.ask(), m.ask()); break;
            case 33:
            case 34: is("chance(" + c + ", " + a + ", " + b + ")", x.chance(c, a, b), m.chance(c, a, b)); break;
            default: t = random.nextInt(); a = upTo(13);
                is("fairs(" + t + ", " + a + ", " + b + ")", x.fairs(t, a, b), m.fairs(t, a, b));
        }
    }

    private void useSheets(int which) {
        int s = upTo(4);
        int f = upTo(3);
        int i = upTo(12);
        int v = random.nextBoolean() ? random.nextInt(12) : random.nextInt();
        switch (which) {
            case 36:
            case 37: i = upTo(random.nextBoolean() ? 13 : 61);
                is("sheet(" + s + ", " + f + ", " + i + ")", x.sheet(s, f, i), m.sheet(s, f, i)); break;
            case 38: is("lose(" + s + ")", x.lose(s), m.lose(s)); break;
            case 39:
            case 40: is("lay(" + s + ", " + f + ", " + i + ", " + v + ")", x.lay(s, f, i, v), m.lay(s, f, i, v)); break;
            case 41: is("get(" + s + ", " + f + ", " + i + ")", x.get(s, f, i), m.get(s, f, i)); break;
            case 42: v = upTo(4); f = upTo(8); int n = upTo(8);
                is("copy(" + s + ", " + i + ", " + v + ", " + f + ", " + n + ")", x.copy(s, i, v, f, n), m.copy(s, i, v, f, n));
                break;
            case 43: is("write(" + i + ", " + s + ")", x.write(i, s), m.write(i, s)); break;
            default: i = upTo(9); is("count(" + i + ")", x.count(i), m.count(i));
        }
        for (int item = 0; item < 3; item++) {
            is("get(" + s + ", " + f + ", " + item + ") then", x.get(s, f, item), m.get(s, f, item));
        }
    }
}
