import java.math.BigInteger;
import java.util.ArrayList;
import java.util.Arrays;
import java.util.List;
import java.util.regex.Matcher;
import java.util.regex.Pattern;

/**
 * The document a second time, written as it reads and with the Java library, to hold the class
 * against in random runs: no bits, no tables, everything worked out anew for each call.
 */
final class Model {
    private static final int NONE = -1, BAD = -2, NOT = -3, FULL = -4;
    private static final int[] LIMITS = {8, 59, 47};
    private static final Pattern[] FORMS = {
        Pattern.compile("([rl][0-3](;[rl][0-3]){0,2})?"),
        Pattern.compile("([0-2][a-l][thg][1-9](;[0-2][a-l][thg][1-9]){0,11})?"),
        Pattern.compile("([a-x][0-2][0-5](;[a-x][0-2][0-5]){0,11})?"),
    };

    private static final class Outcome {
        final int[][] place, is, hit;
        final int[] comes, first, brings;

        Outcome(int ducks, int shots) {
            place = new int[24][ducks];
            is = new int[24][ducks];
            hit = new int[24][ducks];
            comes = new int[shots];
            first = new int[shots];
            brings = new int[shots];
        }

        int score() {
            return Arrays.stream(brings).sum();
        }

        int hits() {
            return (int) Arrays.stream(first).filter(d -> d != NONE).count();
        }

        List<Integer> downBehind(int tick) {
            List<Integer> ducks = new ArrayList<>();
            for (int d = 0; d < is[tick].length; d++) {
                if (is[tick][d] == 2) {
                    ducks.add(d);
                }
            }
            return ducks;
        }
    }

    private final StringBuilder[] texts = {new StringBuilder(), new StringBuilder(), new StringBuilder()};
    private int pull = 2, flight = 1, latest = 0;
    private final List<int[]> events = new ArrayList<>();
    private final List<int[]> seen = new ArrayList<>();
    private final Object[] sheets = new Object[4];

    // ---- what was told

    int type(int text, int b) {
        if (text < 0 || text > 2 || b < 0 || b > 255) {
            return BAD;
        }
        if (texts[text].length() == LIMITS[text]) {
            return FULL;
        }
        return texts[text].append((char) b).length();
    }

    int wipe(int text) {
        if (text < 0 || text > 2) {
            return BAD;
        }
        int had = texts[text].length();
        texts[text].setLength(0);
        return had;
    }

    int undo(int text) {
        if (text < 0 || text > 2) {
            return BAD;
        }
        if (texts[text].length() == 0) {
            return NOT;
        }
        texts[text].setLength(texts[text].length() - 1);
        return texts[text].length();
    }

    int fault(int text) {
        if (text < 0 || text > 2) {
            return BAD;
        }
        String s = texts[text].toString();
        for (int n = 1; n <= s.length(); n++) {
            String begun = s.substring(0, n);
            Matcher m = FORMS[text].matcher(begun);
            boolean goesOn = m.matches() || m.hitEnd();
            if (goesOn && text == 1 && n % 5 == 2) {
                goesOn = (";" + begun).indexOf(";" + begun.substring(n - 2)) == n - 2;
            }
            if (!goesOn) {
                return n - 1;
            }
        }
        return FORMS[text].matcher(s).matches() ? NONE : s.length();
    }

    private String[] items(int text) {
        return fault(text) != NONE || texts[text].length() == 0 ? new String[0] : texts[text].toString().split(";");
    }

    int chain(int chain) {
        if (chain < 0 || chain > 2) {
            return Integer.MIN_VALUE;
        }
        String[] chains = items(0);
        if (chain >= chains.length) {
            return 1;
        }
        int by = chains[chain].charAt(1) - '0';
        return chains[chain].charAt(0) == 'r' ? by : -by;
    }

    private int[][] ducks() {
        return Arrays.stream(items(1)).map(s -> new int[] {
            s.charAt(0) - '0', s.charAt(1) - 'a', "thg".indexOf(s.charAt(2)), s.charAt(3) - '0'
        }).toArray(int[][]::new);
    }

    private int[][] shots() {
        return Arrays.stream(items(2)).map(s -> new int[] {
            s.charAt(0) - 'a', s.charAt(1) - '0', s.charAt(2) - '0'
        }).toArray(int[][]::new);
    }

    private static int part(int[][] rows, int row, int what, int parts) {
        return row < 0 || row >= rows.length || what < 0 || what >= parts ? BAD : rows[row][what];
    }

    int duck(int duck, int what) {
        return part(ducks(), duck, what, 4);
    }

    int shot(int shot, int what) {
        return part(shots(), shot, what, 3);
    }

    int rifle(int what, int v) {
        if (what < 0 || what > 1 || v < 0 || v > 4 - what) {
            return BAD;
        }
        int was = what == 0 ? pull : flight;
        if (what == 0) {
            pull = v;
        } else {
            flight = v;
        }
        return was;
    }

    int event(int kind, int tick, int number) {
        if (kind < 0 || kind > 2 || tick < 0 || tick > 23 || number < 0 || number > 11) {
            return BAD;
        }
        if (events.size() == 8) {
            return FULL;
        }
        events.add(new int[] {kind, tick, number});
        return events.size();
    }

    int back() {
        if (events.isEmpty()) {
            return NOT;
        }
        events.remove(events.size() - 1);
        return events.size();
    }

    int read(int s) {
        if (s < 0 || s > 3) {
            return BAD;
        }
        if (sheets[s] == null) {
            return finding(1);
        }
        int many = 0;
        while (many * 3 + 3 <= length(s)
                && event(item(s, many * 3), item(s, many * 3 + 1), item(s, many * 3 + 2)) > 0) {
            many++;
        }
        return many;
    }

    // ---- ticks

    private static boolean is(List<int[]> events, int kind, int tick, int number) {
        return events.stream().anyMatch(e -> e[0] == kind && e[1] == tick && (kind == 1 || e[2] == number));
    }

    private Outcome play(int[][] ducks, int[][] shots, int pull, List<int[]> events) {
        Outcome o = new Outcome(ducks.length, shots.length);
        int[] place = new int[ducks.length];
        int[] is = new int[ducks.length];
        int[] hit = new int[ducks.length];
        for (int d = 0; d < ducks.length; d++) {
            place[d] = ducks[d][1];
        }
        for (int s = 0; s < shots.length; s++) {
            o.comes[s] = shots[s][0] + flight > 23 ? NONE : shots[s][0] + flight;
            o.first[s] = NONE;
        }
        for (int tick = 0; tick < 24; tick++) {
            for (int d = 0; d < ducks.length; d++) {
                if (!is(events, 0, tick, ducks[d][0])) {
                    place[d] = (place[d] + chain(ducks[d][0]) + 12) % 12;
                }
                if (place[d] > 5 || is(events, 2, tick, d)) {
                    is[d] = 0;
                }
            }
            int draught = is(events, 1, tick, 0) ? 1 : 0;
            for (int s = 0; s < shots.length; s++) {
                if (o.comes[s] == tick) {
                    int column = shots[s][2] + pull - 2 + draught;
                    comes(o, s, shots[s][1], column, new int[][][] {ducks, {place, is, hit}});
                }
            }
            o.place[tick] = place.clone();
            o.is[tick] = is.clone();
            o.hit[tick] = hit.clone();
        }
        return o;
    }

    private static void comes(Outcome o, int shot, int chain, int column, int[][][] now) {
        int[][] ducks = now[0];
        int[] place = now[1][0], is = now[1][1], hit = now[1][2];
        if (column < 0 || column > 5) {
            return;
        }
        for (int d = 0; d < ducks.length; d++) {
            if (ducks[d][0] == chain && place[d] == column && is[d] != 2) {
                if (o.first[shot] == NONE) {
                    o.first[shot] = d;
                }
                hit[d]++;
                is[d] = ducks[d][2] == 1 && is[d] == 0 ? 1 : 2;
                if (is[d] == 2) {
                    o.brings[shot] += ducks[d][3];
                }
                if (ducks[d][2] == 2) {
                    comes(o, shot, chain + 1, column, now);
                }
                return;
            }
        }
    }

    private Outcome told() {
        return play(ducks(), shots(), pull, events);
    }

    int at(int tick, int duck, int what) {
        if (tick < 0 || tick > 23 || duck < 0 || duck >= ducks().length || what < 0 || what > 2) {
            return BAD;
        }
        Outcome o = told();
        return (what == 0 ? o.place : what == 1 ? o.is : o.hit)[tick][duck];
    }

    int sees(int tick, int chain, int place) {
        if (tick < 0 || tick > 23 || chain < 0 || chain > 2 || place < 0 || place > 11) {
            return BAD;
        }
        int[][] ducks = ducks();
        Outcome o = told();
        for (int d = 0; d < ducks.length; d++) {
            if (ducks[d][0] == chain && o.place[tick][d] == place) {
                return d;
            }
        }
        return NONE;
    }

    int down(int tick) {
        return tick < 0 || tick > 23 ? BAD : told().downBehind(tick).size();
    }

    int hits(int shot, int what) {
        if (shot < 0 || shot >= shots().length || what < 0 || what > 2) {
            return BAD;
        }
        Outcome o = told();
        return (what == 0 ? o.comes : what == 1 ? o.first : o.brings)[shot];
    }

    int sum(int what) {
        Outcome o = told();
        return what == 0 ? o.score() : what == 1 ? o.hits() : what == 2 ? o.first.length - o.hits() : BAD;
    }

    int run(int what) {
        if (what < 0 || what > 1) {
            return BAD;
        }
        int[] first = told().first;
        for (int n = first.length; n > 0; n--) {
            for (int s = 0; s + n <= first.length; s++) {
                if (Arrays.stream(first, s, s + n).allMatch(d -> d != NONE)) {
                    return what == 0 ? n : s;
                }
            }
        }
        return what == 0 ? 0 : NONE;
    }

    int easy() {
        int[] hit = told().hit[23];
        int most = Arrays.stream(hit).max().orElse(0);
        for (int d = 0; d < hit.length && most > 0; d++) {
            if (hit[d] == most) {
                return d;
            }
        }
        return NONE;
    }

    int safe() {
        int[] hit = told().hit[23];
        int bits = 0;
        for (int d = 0; d < hit.length; d++) {
            bits += hit[d] == 0 ? 1 << d : 0;
        }
        return bits;
    }

    // ---- plans

    private static int best(int[] scores, int what) {
        int most = Arrays.stream(scores).max().getAsInt();
        for (int i = 0; ; i++) {
            if (scores[i] == most) {
                return what == 0 ? i : most;
            }
        }
    }

    private int bestInPlace(int shot, int part, int many, int what) {
        if (shot < 0 || shot >= shots().length || what < 0 || what > 1) {
            return BAD;
        }
        int[] scores = new int[many];
        for (int i = 0; i < many; i++) {
            int[][] shots = shots();
            shots[shot][part] = i;
            scores[i] = play(ducks(), shots, pull, events).score();
        }
        return best(scores, what);
    }

    int aim(int shot, int what) {
        return bestInPlace(shot, 2, 6, what);
    }

    int fire(int shot, int what) {
        return bestInPlace(shot, 0, 24, what);
    }

    int mend(int what) {
        if (what < 0 || what > 1) {
            return BAD;
        }
        int[] scores = new int[5];
        for (int p = 0; p < 5; p++) {
            scores[p] = play(ducks(), shots(), p, events).score();
        }
        return best(scores, what);
    }

    private boolean noMissWithout(int... which) {
        List<int[]> left = new ArrayList<>(events);
        for (int i = which.length - 1; i >= 0; i--) {
            left.remove(which[i]);
        }
        return play(ducks(), shots(), pull, left).hits() == shots().length;
    }

    private int[] spared() {
        List<int[]> rows = new ArrayList<>();
        rows.add(new int[0]);
        for (int a = 0; a < events.size(); a++) {
            rows.add(new int[] {a});
        }
        for (int a = 0; a < events.size(); a++) {
            for (int b = a + 1; b < events.size(); b++) {
                rows.add(new int[] {a, b});
            }
        }
        return rows.stream().filter(this::noMissWithout).findFirst().orElse(null);
    }

    int spare(int i) {
        if (i < -1 || i > 1) {
            return BAD;
        }
        int[] row = spared();
        if (row == null) {
            return NONE;
        }
        return i == -1 ? row.length : i < row.length ? row[i] : NONE;
    }

    // ---- seen, chance, fairs

    int seen(int tick, int duck, int is) {
        if (tick < 0 || tick > 23 || duck < 0 || duck > 11 || is < 0 || is > 1) {
            return BAD;
        }
        if (seen.size() == 8) {
            return FULL;
        }
        seen.add(new int[] {tick, duck, is});
        return seen.size();
    }

    int forget() {
        int had = seen.size();
        seen.clear();
        return had;
    }

    private boolean comesOut(Outcome o) {
        return seen.stream().allMatch(s -> s[1] < o.is[0].length && o.downBehind(s[0]).contains(s[1]) == (s[2] == 1));
    }

    int might(int what) {
        int bits = 0;
        if (what == 0) {
            for (int e = 0; e < events.size(); e++) {
                List<int[]> left = new ArrayList<>(events);
                left.remove(e);
                bits += comesOut(play(ducks(), shots(), pull, left)) ? 1 << e : 0;
            }
            return bits;
        }
        for (int p = 0; p < 5; p++) {
            bits += comesOut(play(ducks(), shots(), p, events)) ? 1 << p : 0;
        }
        return what == 1 ? bits : BAD;
    }

    int kind(int duck) {
        if (duck < 0 || duck >= ducks().length) {
            return BAD;
        }
        int bits = 0;
        for (int k = 0; k < 3; k++) {
            int[][] ducks = ducks();
            ducks[duck][2] = k;
            bits += comesOut(play(ducks, shots(), pull, events)) ? 1 << k : 0;
        }
        return bits;
    }

    int ask() {
        List<Outcome> might = new ArrayList<>();
        for (int p = 0; p < 5; p++) {
            Outcome o = play(ducks(), shots(), p, events);
            if (comesOut(o)) {
                might.add(o);
            }
        }
        int[] lessMost = new int[24];
        for (int tick = 0; tick < 24; tick++) {
            int t = tick;
            lessMost[t] = -might.stream().mapToInt(
                o -> (int) might.stream().filter(p -> p.downBehind(t).equals(o.downBehind(t))).count()).max().orElse(0);
        }
        return best(lessMost, 0);
    }

    long chance(int c, int shot, int what) {
        if (c < 0 || c > 16 || shot < 0 || shot >= shots().length || what < 0 || what > 1) {
            return Long.MIN_VALUE + 2;
        }
        BigInteger above = weight(c, shot, 0, new ArrayList<>());
        BigInteger below = BigInteger.valueOf(16).pow(events.size());
        BigInteger common = above.gcd(below);
        return (what == 0 ? above : below).divide(common).longValueExact();
    }

    private BigInteger weight(int c, int shot, int next, List<int[]> taken) {
        if (next == events.size()) {
            boolean hit = play(ducks(), shots(), pull, taken).first[shot] != NONE;
            return hit ? BigInteger.ONE : BigInteger.ZERO;
        }
        BigInteger without = weight(c, shot, next + 1, taken);
        taken.add(events.get(next));
        BigInteger with = weight(c, shot, next + 1, taken);
        taken.remove(taken.size() - 1);
        return with.multiply(BigInteger.valueOf(c)).add(without.multiply(BigInteger.valueOf(16 - c)));
    }

    int fairs(int seed, int n, int what) {
        if (n < 0 || n > 12 || what < 0 || what > 1) {
            return BAD;
        }
        int[][] shots = new int[n][3];
        int[] of = {24, 3, 6};
        int lot = seed;
        for (int i = 0; i < 3 * n; i++) {
            lot = lot * 1103515245 + 12345;
            shots[i / 3][i % 3] = (lot >> 16 & 0xffff) % of[i % 3];
        }
        Outcome o = play(ducks(), shots, pull, events);
        return what == 0 ? o.score() : o.hits();
    }

    // ---- sheets

    private int finding(int number) {
        latest = number;
        return -10 - number;
    }

    private int length(int s) {
        return java.lang.reflect.Array.getLength(sheets[s]);
    }

    private int item(int s, int i) {
        return java.lang.reflect.Array.getInt(sheets[s], i);
    }

    private static int form(Object row) {
        return row instanceof byte[] ? 0 : row instanceof short[] ? 1 : 2;
    }

    private static void put(Object row, int i, int v) {
        if (row instanceof byte[] b) {
            b[i] = (byte) v;
        } else if (row instanceof short[] h) {
            h[i] = (short) v;
        } else {
            ((int[]) row)[i] = v;
        }
    }

    int sheet(int s, int form, int n) {
        if (s < 0 || s > 3 || form < 0 || form > 2 || n > 60) {
            return BAD;
        }
        if (n < 0) {
            return finding(5);
        }
        sheets[s] = form == 0 ? new byte[n] : form == 1 ? new short[n] : new int[n];
        return n;
    }

    int lose(int s) {
        if (s < 0 || s > 3) {
            return BAD;
        }
        if (sheets[s] == null) {
            return finding(1);
        }
        int had = length(s);
        sheets[s] = null;
        return had;
    }

    private int look(int s, int form, int i) {
        if (s < 0 || s > 3 || form < 0 || form > 2) {
            return BAD;
        }
        if (sheets[s] == null) {
            return finding(1);
        }
        if (form(sheets[s]) != form) {
            return finding(3);
        }
        return i < 0 || i >= length(s) ? finding(2) : 0;
    }

    int lay(int s, int form, int i, int v) {
        int look = look(s, form, i);
        if (look != 0) {
            return look;
        }
        put(sheets[s], i, v);
        return 1;
    }

    int get(int s, int form, int i) {
        return look(s, form, i) != 0 ? Integer.MIN_VALUE : item(s, i);
    }

    int copy(int s, int i, int t, int j, int n) {
        if (s < 0 || s > 3 || t < 0 || t > 3) {
            return BAD;
        }
        if (sheets[s] == null || sheets[t] == null) {
            return finding(1);
        }
        try {
            System.arraycopy(sheets[s], i, sheets[t], j, n);
            return 1;
        } catch (ArrayStoreException e) {
            return finding(4);
        } catch (IndexOutOfBoundsException e) {
            return finding(2);
        }
    }

    int write(int duck, int s) {
        if (duck < 0 || duck >= ducks().length || s < 0 || s > 3) {
            return BAD;
        }
        if (sheets[s] == null) {
            return finding(1);
        }
        int n = Math.min(24, length(s));
        for (int t = 0; t < n; t++) {
            put(sheets[s], t, at(t, duck, 1));
        }
        return n;
    }

    int count(int what) {
        switch (what) {
            case 0: return ducks().length;
            case 1: return shots().length;
            case 2: return texts[0].length() + texts[1].length() + texts[2].length();
            case 3: return events.size();
            case 4: return sum(0);
            case 5: return sum(1);
            case 6: return down(23);
            case 7: return seen.size();
            case 8: return latest;
            default: return BAD;
        }
    }

    long digest() {
        List<Long> all = new ArrayList<>();
        for (int what = 0; what <= 7; what++) {
            all.add((long) count(what));
        }
        for (int text = 0; text < 3; text++) {
            all.add((long) fault(text));
        }
        for (int chain = 0; chain < 3; chain++) {
            all.add((long) chain(chain));
            for (int place = 0; place < 12; place++) {
                all.add((long) sees(10, chain, place));
            }
        }
        for (int tick = 0; tick < 24; tick++) {
            all.add((long) down(tick));
        }
        for (int duck = 0; duck < ducks().length; duck++) {
            for (int what = 0; what < 4; what++) {
                all.add((long) duck(duck, what));
            }
            for (int tick : new int[] {0, 6, 13, 23}) {
                for (int what = 0; what < 3; what++) {
                    all.add((long) at(tick, duck, what));
                }
            }
            all.add((long) kind(duck));
        }
        for (int shot = 0; shot < shots().length; shot++) {
            for (int what = 0; what < 3; what++) {
                all.add((long) shot(shot, what));
            }
            for (int what = 0; what < 3; what++) {
                all.add((long) hits(shot, what));
            }
            all.add((long) aim(shot, 0));
            all.add((long) aim(shot, 1));
            all.add((long) fire(shot, 0));
            all.add((long) fire(shot, 1));
            all.add(chance(5, shot, 0));
            all.add(chance(5, shot, 1));
        }
        int[] rest = {sum(0), sum(1), sum(2), run(0), run(1), easy(), safe(), mend(0), mend(1), spare(-1), spare(0),
            might(0), might(1), ask(), fairs(7, 9, 0), fairs(7, 9, 1)};
        for (int r : rest) {
            all.add((long) r);
        }
        long h = 17;
        for (long v : all) {
            h = 31 * h + v;
        }
        return h;
    }
}
