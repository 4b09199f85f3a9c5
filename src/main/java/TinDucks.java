import java.util.Arrays;

/**
 * A shooting gallery: tin ducks on three chains, shots as told, jerks, draughts and ducks set up
 * again; what comes of it tick by tick, what would have been better, and what may have been.
 *
 * <p>Words in capitals in comments are the document's (DOC.md).
 */
public final class TinDucks {
    public static final int NONE = -1, BAD = -2, NOT = -3, FULL = -4;

    private static final int CHAIN_TEXT = 0, DUCK_TEXT = 1, SHOT_TEXT = 2, TEXTS = 3;
    private static final int CHAINS = 3, PLACES = 12, COLUMNS = 6, TICKS = 24;
    private static final int MOST_DUCKS = 12, MOST_SHOTS = 12, MOST_EVENTS = 8, MOST_SEEN = 8;
    private static final int MOST_NUMBER = 11;
    private static final int PULLS = 5, STRAIGHT = 2, FLIGHTS = 4, FLIGHT_AT_FIRST = 1;
    private static final int HEAVY = 1, GUM = 2, KINDS = 3;
    private static final int JERK = 0, DRAUGHT = 1, SET = 2;
    private static final int SIXTEENTHS = 16;
    private static final int SHEETS = 4, FORMS = 3, MOST_ITEMS = 60;
    private static final int NULL_FOUND = 1, INDEX_FOUND = 2, CAST_FOUND = 3, STORE_FOUND = 4, SIZE_FOUND = 5;
    private static final int LEAST_INT = -2147483648;
    private static final long LEAST_LONG = -9223372036854775808L;
    private static final int[] DIGEST_TICKS = {0, 6, 13, 23};

    private final Text[] texts = new Text[TEXTS];
    private final Stand stand = new Stand();
    private final Events events = new Events();
    private final Course toldCourse = new Course(stand, events);
    private final Course otherCourse = new Course(stand, events);
    private final Round told = new Round(stand, toldCourse);
    private final Round tried = new Round(stand, toldCourse);
    private final Seen seenSoFar = new Seen();
    private final Sheet[] sheets = new Sheet[SHEETS];

    /** Whether what was worked out still fits what was told. */
    private boolean settled;
    private boolean chancesKnown;
    /** By SHOT and k: of all choices of k EVENTS, how many make it HIT. */
    private final int[] hitChoices = new int[MOST_SHOTS * (MOST_EVENTS + 1)];
    /** The bits of DUCKS that are DOWN, behind each TICK, by each of the PULLS that might be. */
    private final int[] downByPull = new int[PULLS * TICKS];
    /** The answer of the latest search: which one is best, and by how much. */
    private int which, much;
    private int latestFinding;

    public TinDucks() {
        texts[CHAIN_TEXT] = new Text(CHAIN_TEXT, 8, 2, CHAINS);
        texts[DUCK_TEXT] = new Text(DUCK_TEXT, 59, 4, MOST_DUCKS);
        texts[SHOT_TEXT] = new Text(SHOT_TEXT, 47, 3, MOST_SHOTS);
        for (int s = 0; s < SHEETS; s++) {
            sheets[s] = new Sheet();
        }
    }

    // ---- chains, ducks, shots, the rifle, events

    public int type(int text, int b) {
        if (!within(text, TEXTS) || !within(b, 256)) {
            return BAD;
        }
        if (texts[text].isFull()) {
            return FULL;
        }
        texts[text].append(b);
        settled = false;
        return texts[text].length;
    }

    public int wipe(int text) {
        if (!within(text, TEXTS)) {
            return BAD;
        }
        int had = texts[text].length;
        texts[text].length = 0;
        settled = false;
        return had;
    }

    public int undo(int text) {
        if (!within(text, TEXTS)) {
            return BAD;
        }
        if (texts[text].length == 0) {
            return NOT;
        }
        texts[text].length--;
        settled = false;
        return texts[text].length;
    }

    public int fault(int text) {
        if (!within(text, TEXTS)) {
            return BAD;
        }
        settle();
        return texts[text].faultPlace;
    }

    public int chain(int chain) {
        if (!within(chain, CHAINS)) {
            return LEAST_INT;
        }
        settle();
        return stand.speed[chain];
    }

    public int duck(int duck, int what) {
        settle();
        if (!isDuck(duck) || !within(what, 4)) {
            return BAD;
        }
        return stand.tellDuck(duck, what);
    }

    public int shot(int shot, int what) {
        settle();
        if (!isShot(shot) || !within(what, 3)) {
            return BAD;
        }
        return told.shots.tellShot(shot, what);
    }

    public int rifle(int what, int v) {
        if (!within(what, 2) || !within(v, what == 0 ? PULLS : FLIGHTS)) {
            return BAD;
        }
        int was = what == 0 ? told.pull : told.flight;
        if (what == 0) {
            told.pull = v;
        } else {
            told.flight = v;
        }
        settled = false;
        return was;
    }

    public int event(int kind, int tick, int number) {
        if (!isEvent(kind, tick, number)) {
            return BAD;
        }
        if (events.isFull()) {
            return FULL;
        }
        events.append(kind, tick, number);
        settled = false;
        return events.count;
    }

    public int back() {
        if (events.count == 0) {
            return NOT;
        }
        events.dropLast();
        settled = false;
        return events.count;
    }

    public int read(int s) {
        int refusal = refuseSheet(s);
        if (refusal != 0) {
            return refusal;
        }
        Sheet from = sheets[s];
        int taken = 0;
        for (int i = 0; i + 2 < from.length; i += 3) {
            int answer = event(from.items[i], from.items[i + 1], from.items[i + 2]);
            if (answer < 0) {
                break;
            }
            taken++;
        }
        return taken;
    }

    // ---- ticks

    public int at(int tick, int duck, int what) {
        settle();
        if (!within(tick, TICKS) || !isDuck(duck) || !within(what, 3)) {
            return BAD;
        }
        return told.tellDuckBehind(tick, duck, what);
    }

    public int sees(int tick, int chain, int place) {
        if (!within(tick, TICKS) || !within(chain, CHAINS) || !within(place, PLACES)) {
            return BAD;
        }
        settle();
        return toldCourse.duckAt(tick, chain, place);
    }

    public int down(int tick) {
        if (!within(tick, TICKS)) {
            return BAD;
        }
        settle();
        return Integer.bitCount(told.downBehind[tick]);
    }

    public int hits(int shot, int what) {
        settle();
        if (!isShot(shot) || !within(what, 3)) {
            return BAD;
        }
        return told.tellOutcome(shot, what);
    }

    public int sum(int what) {
        if (!within(what, 3)) {
            return BAD;
        }
        settle();
        return told.tellSum(what);
    }

    public int run(int what) {
        if (!within(what, 2)) {
            return BAD;
        }
        settle();
        seekRun();
        return what == 0 ? much : which;
    }

    public int easy() {
        settle();
        return easiestDuck();
    }

    public int safe() {
        settle();
        return safeDucks();
    }

    // ---- plans

    public int aim(int shot, int what) {
        settle();
        if (!isShot(shot) || !within(what, 2)) {
            return BAD;
        }
        seekAim(shot);
        return what == 0 ? which : much;
    }

    public int fire(int shot, int what) {
        settle();
        if (!isShot(shot) || !within(what, 2)) {
            return BAD;
        }
        seekFire(shot);
        return what == 0 ? which : much;
    }

    public int mend(int what) {
        if (!within(what, 2)) {
            return BAD;
        }
        settle();
        seekMend();
        return what == 0 ? which : much;
    }

    public int spare(int i) {
        if (i != NONE && !within(i, 2)) {
            return BAD;
        }
        settle();
        return sparedOf(eventsToSpare(), i);
    }

    // ---- seen, chance, fairs

    public int seen(int tick, int duck, int is) {
        if (!within(tick, TICKS) || !within(duck, MOST_DUCKS) || !within(is, 2)) {
            return BAD;
        }
        if (seenSoFar.isFull()) {
            return FULL;
        }
        seenSoFar.append(tick, duck, is);
        return seenSoFar.count;
    }

    public int forget() {
        int had = seenSoFar.count;
        seenSoFar.count = 0;
        return had;
    }

    public int might(int what) {
        if (!within(what, 2)) {
            return BAD;
        }
        settle();
        return what == 0 ? eventsThatNeverWere() : pullsThatMightBe();
    }

    public int kind(int duck) {
        settle();
        if (!isDuck(duck)) {
            return BAD;
        }
        return kindsThatMightBe(duck);
    }

    public int ask() {
        settle();
        return tickToAsk();
    }

    public long chance(int c, int shot, int what) {
        settle();
        if (!within(c, SIXTEENTHS + 1) || !isShot(shot) || !within(what, 2)) {
            return LEAST_LONG - BAD;
        }
        learnChances();
        return chanceLearned(c, shot, what);
    }

    public int fairs(int seed, int n, int what) {
        if (!within(n, MOST_SHOTS + 1) || !within(what, 2)) {
            return BAD;
        }
        settle();
        tryFair(seed, n);
        return tried.tellSum(what);
    }

    // ---- sheets

    public int sheet(int s, int form, int n) {
        if (!within(s, SHEETS) || !within(form, FORMS) || n > MOST_ITEMS) {
            return BAD;
        }
        if (n < 0) {
            return finding(SIZE_FOUND);
        }
        sheets[s].begin(form, n);
        return n;
    }

    public int lose(int s) {
        int refusal = refuseSheet(s);
        if (refusal != 0) {
            return refusal;
        }
        sheets[s].lost = true;
        return sheets[s].length;
    }

    public int lay(int s, int form, int i, int v) {
        int refusal = refuseItem(s, form, i);
        if (refusal != 0) {
            return refusal;
        }
        sheets[s].put(i, v);
        return 1;
    }

    public int get(int s, int form, int i) {
        return refuseItem(s, form, i) != 0 ? LEAST_INT : sheets[s].items[i];
    }

    public int copy(int s, int i, int t, int j, int n) {
        if (!within(s, SHEETS) || !within(t, SHEETS)) {
            return BAD;
        }
        Sheet from = sheets[s];
        Sheet to = sheets[t];
        if (from.lost || to.lost) {
            return finding(NULL_FOUND);
        }
        if (from.form != to.form) {
            return finding(STORE_FOUND);
        }
        if (!from.has(i, n) || !to.has(j, n)) {
            return finding(INDEX_FOUND);
        }
        System.arraycopy(from.items, i, to.items, j, n);
        return 1;
    }

    public int write(int duck, int s) {
        settle();
        if (!isDuck(duck)) {
            return BAD;
        }
        int refusal = refuseSheet(s);
        if (refusal != 0) {
            return refusal;
        }
        int n = Math.min(TICKS, sheets[s].length);
        for (int t = 0; t < n; t++) {
            sheets[s].put(t, told.conditionBehind(t, duck));
        }
        return n;
    }

    public int count(int what) {
        settle();
        return tellCount(what);
    }

    public long digest() {
        settle();
        learnChances();
        long h = digestTold(17L);
        for (int duck = 0; duck < stand.ducks; duck++) {
            h = digestDuck(h, duck);
        }
        for (int shot = 0; shot < told.shots.count; shot++) {
            h = digestShot(h, shot);
        }
        return digestPlans(digestSums(h));
    }

    // ---- digest, part by part

    private static long mix(long h, long value) {
        return 31L * h + value;
    }

    /** What the latest search found: which, how much. */
    private long mixFound(long h) {
        return mix(mix(h, which), much);
    }

    private long digestTold(long start) {
        long h = start;
        for (int what = 0; what <= 7; what++) {
            h = mix(h, tellCount(what));
        }
        for (int text = 0; text < TEXTS; text++) {
            h = mix(h, texts[text].faultPlace);
        }
        for (int chain = 0; chain < CHAINS; chain++) {
            h = mix(h, stand.speed[chain]);
            for (int place = 0; place < PLACES; place++) {
                h = mix(h, toldCourse.duckAt(10, chain, place));
            }
        }
        for (int tick = 0; tick < TICKS; tick++) {
            h = mix(h, Integer.bitCount(told.downBehind[tick]));
        }
        return h;
    }

    private long digestDuck(long start, int duck) {
        long h = start;
        for (int what = 0; what <= 3; what++) {
            h = mix(h, stand.tellDuck(duck, what));
        }
        for (int tick : DIGEST_TICKS) {
            for (int what = 0; what <= 2; what++) {
                h = mix(h, told.tellDuckBehind(tick, duck, what));
            }
        }
        return mix(h, kindsThatMightBe(duck));
    }

    private long digestShot(long start, int shot) {
        long h = start;
        for (int what = 0; what <= 2; what++) {
            h = mix(h, told.shots.tellShot(shot, what));
        }
        for (int what = 0; what <= 2; what++) {
            h = mix(h, told.tellOutcome(shot, what));
        }
        seekAim(shot);
        h = mixFound(h);
        seekFire(shot);
        h = mixFound(h);
        h = mix(h, chanceLearned(5, shot, 0));
        return mix(h, chanceLearned(5, shot, 1));
    }

    private long digestSums(long start) {
        long h = start;
        for (int what = 0; what <= 2; what++) {
            h = mix(h, told.tellSum(what));
        }
        seekRun();
        h = mix(mix(h, much), which);
        return mix(mix(h, easiestDuck()), safeDucks());
    }

    private long digestPlans(long start) {
        seekMend();
        long h = mixFound(start);
        int spared = eventsToSpare();
        h = mix(mix(h, sparedOf(spared, NONE)), sparedOf(spared, 0));
        h = mix(mix(h, eventsThatNeverWere()), pullsThatMightBe());
        h = mix(h, tickToAsk());
        tryFair(7, 9);
        return mix(mix(h, tried.tellSum(0)), tried.tellSum(1));
    }

    // ---- what may be told

    private static boolean within(int v, int end) {
        return v >= 0 && v < end;
    }

    private static boolean isEvent(int kind, int tick, int number) {
        return within(kind, SET + 1) && within(tick, TICKS) && within(number, MOST_NUMBER + 1);
    }

    private boolean isDuck(int duck) {
        return within(duck, stand.ducks);
    }

    private boolean isShot(int shot) {
        return within(shot, told.shots.count);
    }

    private int finding(int number) {
        latestFinding = number;
        return -10 - number;
    }

    /** 0: there is such a SHEET, and it is not LOST. */
    private int refuseSheet(int s) {
        if (!within(s, SHEETS)) {
            return BAD;
        }
        return sheets[s].lost ? finding(NULL_FOUND) : 0;
    }

    /** 0: there is such an item in a SHEET of that FORM. */
    private int refuseItem(int s, int form, int i) {
        if (!within(form, FORMS)) {
            return BAD;
        }
        int refusal = refuseSheet(s);
        if (refusal != 0) {
            return refusal;
        }
        if (sheets[s].form != form) {
            return finding(CAST_FOUND);
        }
        return within(i, sheets[s].length) ? 0 : finding(INDEX_FOUND);
    }

    // ---- what is worked out

    /** Works out anew what comes of all that was told; put off until a call asks for it. */
    private void settle() {
        if (settled) {
            return;
        }
        for (int text = 0; text < TEXTS; text++) {
            texts[text].examine();
        }
        stand.arrange(texts[CHAIN_TEXT], texts[DUCK_TEXT]);
        toldCourse.go(events.all());
        told.shots.takeText(texts[SHOT_TEXT]);
        System.arraycopy(stand.kindOf, 0, told.kindOf, 0, MOST_DUCKS);
        told.play();
        settled = true;
        chancesKnown = false;
    }

    /** Of like amounts the one offered first stays. */
    private void offer(int one, int amount) {
        if (amount > much) {
            much = amount;
            which = one;
        }
    }

    private int tellCount(int what) {
        switch (what) {
            case 0: return stand.ducks;
            case 1: return told.shots.count;
            case 2: return texts[CHAIN_TEXT].length + texts[DUCK_TEXT].length + texts[SHOT_TEXT].length;
            case 3: return events.count;
            case 4: return told.score;
            case 5: return Integer.bitCount(told.hitting);
            case 6: return Integer.bitCount(told.downBehind[TICKS - 1]);
            case 7: return seenSoFar.count;
            case 8: return latestFinding;
            default: return BAD;
        }
    }

    private int easiestDuck() {
        which = NONE;
        much = 0;
        for (int duck = 0; duck < stand.ducks; duck++) {
            offer(duck, told.hitsBehind(TICKS - 1, duck));
        }
        return which;
    }

    private int safeDucks() {
        int bits = 0;
        for (int duck = 0; duck < stand.ducks; duck++) {
            if (told.hitsBehind(TICKS - 1, duck) == 0) {
                bits |= 1 << duck;
            }
        }
        return bits;
    }

    private void seekRun() {
        which = NONE;
        much = 0;
        int length = 0;
        for (int shot = 0; shot < told.shots.count; shot++) {
            length = isSet(told.hitting, shot) ? length + 1 : 0;
            offer(shot - length + 1, length);
        }
    }

    private void seekAim(int shot) {
        tried.takeFrom(told);
        much = NONE;
        for (int column = 0; column < COLUMNS; column++) {
            tried.shots.column[shot] = column;
            tried.play();
            offer(column, tried.score);
        }
    }

    private void seekFire(int shot) {
        tried.takeFrom(told);
        much = NONE;
        for (int tick = 0; tick < TICKS; tick++) {
            tried.shots.tick[shot] = tick;
            tried.play();
            offer(tick, tried.score);
        }
    }

    private void seekMend() {
        tried.takeFrom(told);
        much = NONE;
        for (int pull = 0; pull < PULLS; pull++) {
            tried.pull = pull;
            tried.play();
            offer(pull, tried.score);
        }
    }

    /** Plays what was told, but with no EVENTS other than these. */
    private void tryEvents(int bits) {
        tried.takeFrom(told);
        otherCourse.go(bits);
        tried.course = otherCourse;
        tried.play();
    }

    private boolean allHitWithout(int bits) {
        tryEvents(events.all() & ~bits);
        return tried.hitting == (1 << tried.shots.count) - 1;
    }

    /** The bits of SPARE; NONE. */
    private int eventsToSpare() {
        if (allHitWithout(0)) {
            return 0;
        }
        for (int e = 0; e < events.count; e++) {
            if (allHitWithout(1 << e)) {
                return 1 << e;
            }
        }
        for (int e = 0; e < events.count; e++) {
            for (int f = e + 1; f < events.count; f++) {
                if (allHitWithout(1 << e | 1 << f)) {
                    return 1 << e | 1 << f;
                }
            }
        }
        return NONE;
    }

    private static int sparedOf(int bits, int i) {
        if (bits == NONE) {
            return NONE;
        }
        int many = Integer.bitCount(bits);
        if (i == NONE) {
            return many;
        }
        if (i >= many) {
            return NONE;
        }
        return Integer.numberOfTrailingZeros(i == 0 ? bits : bits & (bits - 1));
    }

    private int bitIfSeen(int bit) {
        return seenSoFar.fits(tried.downBehind, stand.ducks) ? 1 << bit : 0;
    }

    private int eventsThatNeverWere() {
        int bits = 0;
        for (int e = 0; e < events.count; e++) {
            tryEvents(events.all() & ~(1 << e));
            bits |= bitIfSeen(e);
        }
        return bits;
    }

    /** Also leaves in downByPull, one behind another, what is DOWN by those that might be. */
    private int pullsThatMightBe() {
        tried.takeFrom(told);
        int bits = 0;
        int many = 0;
        for (int pull = 0; pull < PULLS; pull++) {
            tried.pull = pull;
            tried.play();
            int bit = bitIfSeen(pull);
            if (bit != 0) {
                System.arraycopy(tried.downBehind, 0, downByPull, many * TICKS, TICKS);
                many++;
            }
            bits |= bit;
        }
        return bits;
    }

    private int kindsThatMightBe(int duck) {
        tried.takeFrom(told);
        int bits = 0;
        for (int kind = 0; kind < KINDS; kind++) {
            tried.kindOf[duck] = kind;
            tried.play();
            bits |= bitIfSeen(kind);
        }
        return bits;
    }

    private int tickToAsk() {
        int pulls = Integer.bitCount(pullsThatMightBe());
        int tick = 0;
        int least = PULLS + 1;
        for (int t = 0; t < TICKS; t++) {
            int greatest = greatestLikeGroup(t, pulls);
            if (greatest < least) {
                least = greatest;
                tick = t;
            }
        }
        return tick;
    }

    /** Of the first so many rows of downByPull, how many at most are alike behind a TICK. */
    private int greatestLikeGroup(int tick, int pulls) {
        int greatest = 0;
        for (int p = 0; p < pulls; p++) {
            int like = 0;
            for (int q = 0; q < pulls; q++) {
                if (downByPull[p * TICKS + tick] == downByPull[q * TICKS + tick]) {
                    like++;
                }
            }
            greatest = Math.max(greatest, like);
        }
        return greatest;
    }

    /** Plays every choice of EVENTS, once for all SHOTS and all c. */
    private void learnChances() {
        if (chancesKnown) {
            return;
        }
        Arrays.fill(hitChoices, 0);
        for (int choice = 0; choice <= events.all(); choice++) {
            tryEvents(choice);
            int chosen = Integer.bitCount(choice);
            for (int shot = 0; shot < told.shots.count; shot++) {
                if (isSet(tried.hitting, shot)) {
                    hitChoices[shot * (MOST_EVENTS + 1) + chosen]++;
                }
            }
        }
        chancesKnown = true;
    }

    private long chanceLearned(int c, int shot, int what) {
        long above = weightOfHits(c, shot);
        long below = power(SIXTEENTHS, events.count);
        long common = commonDivisor(above, below);
        return (what == 0 ? above : below) / common;
    }

    private long weightOfHits(int c, int shot) {
        long weight = 0;
        for (int chosen = 0; chosen <= events.count; chosen++) {
            long each = power(c, chosen) * power(SIXTEENTHS - c, events.count - chosen);
            weight += hitChoices[shot * (MOST_EVENTS + 1) + chosen] * each;
        }
        return weight;
    }

    private static long power(int base, int exponent) {
        long power = 1;
        for (int i = 0; i < exponent; i++) {
            power *= base;
        }
        return power;
    }

    /** Of a number from 0 on and one that is a power of 2. */
    private static long commonDivisor(long above, long below) {
        long common = below;
        for (int i = 0; i < 64 && common > 1 && (above & (common - 1)) != 0; i++) {
            common >>= 1;
        }
        return Math.max(common, 1L);
    }

    private void tryFair(int seed, int n) {
        tried.takeFrom(told);
        tried.shots.draw(seed, n);
        tried.play();
    }

    private static boolean isSet(int bits, int bit) {
        return (bits >> bit & 1) == 1;
    }

    /** Bytes as typed, and what they tell: items of some signs each, with ; between them. */
    private static final class Text {
        final int ofWhat, width, most;
        final int[] bytes;
        /** Of each item, of each of its signs, its place among those that may stand there. */
        final int[] values;
        int length, items, faultPlace;

        Text(int ofWhat, int limit, int width, int most) {
            this.ofWhat = ofWhat;
            this.width = width;
            this.most = most;
            bytes = new int[limit];
            values = new int[most * width];
            faultPlace = NONE;
        }

        boolean isFull() {
            return length >= bytes.length;
        }

        void append(int b) {
            bytes[length] = b;
            length++;
        }

        int value(int item, int sign) {
            return values[item * width + sign];
        }

        void examine() {
            faultPlace = firstFault();
            items = faultPlace == NONE ? (length + 1) / (width + 1) : 0;
        }

        private int firstFault() {
            for (int place = 0; place < length; place++) {
                if (!goesOn(place)) {
                    return place;
                }
            }
            boolean ended = length == 0 || length % (width + 1) == width;
            return ended ? NONE : length;
        }

        private boolean goesOn(int place) {
            int item = place / (width + 1);
            int sign = place % (width + 1);
            if (sign == width) {
                return bytes[place] == ';';
            }
            if (item >= most) {
                return false;
            }
            int value = signs(sign).indexOf((char) bytes[place]);
            values[item * width + sign] = value;
            return value >= 0 && !(ofWhat == DUCK_TEXT && sign == 1 && isTaken(item));
        }

        /** Whether a DUCK told ahead of this one is at its PLACE. */
        private boolean isTaken(int item) {
            for (int other = 0; other < item; other++) {
                if (value(other, 0) == value(item, 0) && value(other, 1) == value(item, 1)) {
                    return true;
                }
            }
            return false;
        }

        private String signs(int sign) {
            switch (ofWhat * 4 + sign) {
                case CHAIN_TEXT * 4: return "rl";
                case CHAIN_TEXT * 4 + 1: return "0123";
                case DUCK_TEXT * 4: return "012";
                case DUCK_TEXT * 4 + 1: return "abcdefghijkl";
                case DUCK_TEXT * 4 + 2: return "thg";
                case DUCK_TEXT * 4 + 3: return "123456789";
                case SHOT_TEXT * 4: return "abcdefghijklmnopqrstuvwx";
                case SHOT_TEXT * 4 + 1: return "012";
                default: return "012345";
            }
        }
    }

    /** CHAINS and DUCKS as told. */
    private static final class Stand {
        final int[] speed = new int[CHAINS];
        final int[] chainOf = new int[MOST_DUCKS];
        final int[] placeOf = new int[MOST_DUCKS];
        final int[] kindOf = new int[MOST_DUCKS];
        final int[] worthOf = new int[MOST_DUCKS];
        int ducks;
        /** By CHAIN and PLACE at first: the DUCK; NONE. */
        final int[] duckFrom = new int[CHAINS * PLACES];
        /** By CHAIN and how far it has gone: the bits of its DUCKS that are not in sight. */
        final int[] hidden = new int[CHAINS * PLACES];

        void arrange(Text chainText, Text duckText) {
            for (int chain = 0; chain < CHAINS; chain++) {
                speed[chain] = chain < chainText.items ? speedTold(chainText, chain) : 1;
            }
            Arrays.fill(duckFrom, NONE);
            Arrays.fill(hidden, 0);
            ducks = duckText.items;
            for (int duck = 0; duck < ducks; duck++) {
                chainOf[duck] = duckText.value(duck, 0);
                placeOf[duck] = duckText.value(duck, 1);
                kindOf[duck] = duckText.value(duck, 2);
                worthOf[duck] = duckText.value(duck, 3) + 1;
                duckFrom[chainOf[duck] * PLACES + placeOf[duck]] = duck;
                noteHidden(duck);
            }
        }

        int tellDuck(int duck, int what) {
            switch (what) {
                case 0: return chainOf[duck];
                case 1: return placeOf[duck];
                case 2: return kindOf[duck];
                default: return worthOf[duck];
            }
        }

        private static int speedTold(Text chainText, int chain) {
            int places = chainText.value(chain, 1);
            return chainText.value(chain, 0) == 0 ? places : -places;
        }

        private void noteHidden(int duck) {
            for (int gone = 0; gone < PLACES; gone++) {
                if ((placeOf[duck] + gone) % PLACES >= COLUMNS) {
                    hidden[chainOf[duck] * PLACES + gone] |= 1 << duck;
                }
            }
        }
    }

    /** EVENTS as told. */
    private static final class Events {
        final int[] kindOf = new int[MOST_EVENTS];
        final int[] tickOf = new int[MOST_EVENTS];
        final int[] numberOf = new int[MOST_EVENTS];
        /** By TICK: the bits of the EVENTS in it. */
        final int[] inTick = new int[TICKS];
        int count;

        boolean isFull() {
            return count >= MOST_EVENTS;
        }

        void append(int kind, int tick, int number) {
            kindOf[count] = kind;
            tickOf[count] = tick;
            numberOf[count] = number;
            inTick[tick] |= 1 << count;
            count++;
        }

        void dropLast() {
            count--;
            inTick[tickOf[count]] &= ~(1 << count);
        }

        int all() {
            return (1 << count) - 1;
        }

        /** The bits of the numbers that those of a kind among these EVENTS tell. */
        int numbers(int bits, int kind) {
            int numbers = 0;
            for (int e = 0; e < count; e++) {
                if (isSet(bits, e) && kindOf[e] == kind) {
                    numbers |= 1 << numberOf[e];
                }
            }
            return numbers;
        }
    }

    /** How all goes tick by tick by some of EVENTS, whatever is shot. */
    private static final class Course {
        final Stand stand;
        final Events events;
        /** By TICK and CHAIN: how far it has gone, 0 to 11. */
        final int[] gone = new int[TICKS * CHAINS];
        /** By TICK: the bits of DUCKS that stand ahead of the SHOTS, whatever they were. */
        final int[] standing = new int[TICKS];
        /** By TICK: 1 if there is a DRAUGHT, else 0. */
        final int[] draught = new int[TICKS];

        Course(Stand stand, Events events) {
            this.stand = stand;
            this.events = events;
        }

        void go(int chosen) {
            for (int tick = 0; tick < TICKS; tick++) {
                int now = events.inTick[tick] & chosen;
                int jerks = 0;
                int set = 0;
                int draughts = 0;
                if (now != 0) {
                    jerks = events.numbers(now, JERK);
                    set = events.numbers(now, SET);
                    draughts = events.numbers(now, DRAUGHT);
                }
                draught[tick] = draughts != 0 ? 1 : 0;
                standing[tick] = set | goOn(tick, jerks);
            }
        }

        /** The bits of DUCKS that are not in sight then. */
        private int goOn(int tick, int jerks) {
            int outOfSight = 0;
            for (int chain = 0; chain < CHAINS; chain++) {
                int before = tick == 0 ? 0 : gone[(tick - 1) * CHAINS + chain];
                int by = isSet(jerks, chain) ? 0 : stand.speed[chain];
                int now = Math.floorMod(before + by, PLACES);
                gone[tick * CHAINS + chain] = now;
                outOfSight |= stand.hidden[chain * PLACES + now];
            }
            return outOfSight;
        }

        int placeBehind(int tick, int duck) {
            return (stand.placeOf[duck] + gone[tick * CHAINS + stand.chainOf[duck]]) % PLACES;
        }

        int duckAt(int tick, int chain, int place) {
            int atFirst = (place + PLACES - gone[tick * CHAINS + chain]) % PLACES;
            return stand.duckFrom[chain * PLACES + atFirst];
        }
    }

    /** SHOTS as told, or in place of those told. */
    private static final class Shots {
        final int[] tick = new int[MOST_SHOTS];
        final int[] chain = new int[MOST_SHOTS];
        final int[] column = new int[MOST_SHOTS];
        int count;

        void takeText(Text text) {
            count = text.items;
            for (int shot = 0; shot < count; shot++) {
                tick[shot] = text.value(shot, 0);
                chain[shot] = text.value(shot, 1);
                column[shot] = text.value(shot, 2);
            }
        }

        void takeFrom(Shots other) {
            count = other.count;
            System.arraycopy(other.tick, 0, tick, 0, count);
            System.arraycopy(other.chain, 0, chain, 0, count);
            System.arraycopy(other.column, 0, column, 0, count);
        }

        int tellShot(int shot, int what) {
            switch (what) {
                case 0: return tick[shot];
                case 1: return chain[shot];
                default: return column[shot];
            }
        }

        /** n SHOTS by LOTS, in place of those that were here. */
        void draw(int start, int n) {
            count = n;
            int seed = start;
            for (int shot = 0; shot < n; shot++) {
                seed = nextSeed(seed);
                tick[shot] = (seed >>> 16) % TICKS;
                seed = nextSeed(seed);
                chain[shot] = (seed >>> 16) % CHAINS;
                seed = nextSeed(seed);
                column[shot] = (seed >>> 16) % COLUMNS;
            }
        }

        private static int nextSeed(int seed) {
            return 1103515245 * seed + 12345;
        }
    }

    /** All TICKS once: what goes in may be changed, then play() works out what comes of it. */
    private static final class Round {
        final Stand stand;
        // what goes in
        final Shots shots = new Shots();
        final int[] kindOf = new int[MOST_DUCKS];
        int pull = STRAIGHT;
        int flight = FLIGHT_AT_FIRST;
        Course course;
        // what comes of it: by TICK
        final int[] downBehind = new int[TICKS];
        final int[] dentedBehind = new int[TICKS];
        /** Of each DUCK four bits: enough, as each of 12 SHOTS HITS it once at most. */
        final long[] timesHitBehind = new long[TICKS];
        // by SHOT
        final int[] firstHit = new int[MOST_SHOTS];
        final int[] brought = new int[MOST_SHOTS];
        int score, hitting;
        // while it goes on
        private final int[] coming = new int[TICKS];
        private int downNow, dentedNow;
        private long timesHitNow;

        Round(Stand stand, Course course) {
            this.stand = stand;
            this.course = course;
        }

        void takeFrom(Round other) {
            shots.takeFrom(other.shots);
            System.arraycopy(other.kindOf, 0, kindOf, 0, MOST_DUCKS);
            pull = other.pull;
            flight = other.flight;
            course = other.course;
        }

        int comingTick(int shot) {
            int tick = shots.tick[shot] + flight;
            return tick < TICKS ? tick : NONE;
        }

        int conditionBehind(int tick, int duck) {
            if (isSet(downBehind[tick], duck)) {
                return 2;
            }
            return isSet(dentedBehind[tick], duck) ? 1 : 0;
        }

        int hitsBehind(int tick, int duck) {
            return (int) (timesHitBehind[tick] >> 4 * duck & 15L);
        }

        int tellDuckBehind(int tick, int duck, int what) {
            switch (what) {
                case 0: return course.placeBehind(tick, duck);
                case 1: return conditionBehind(tick, duck);
                default: return hitsBehind(tick, duck);
            }
        }

        int tellOutcome(int shot, int what) {
            switch (what) {
                case 0: return comingTick(shot);
                case 1: return firstHit[shot];
                default: return brought[shot];
            }
        }

        int tellSum(int what) {
            int many = Integer.bitCount(hitting);
            switch (what) {
                case 0: return score;
                case 1: return many;
                default: return shots.count - many;
            }
        }

        void play() {
            begin();
            for (int tick = 0; tick < TICKS; tick++) {
                downNow &= ~course.standing[tick];
                dentedNow &= ~course.standing[tick];
                for (int shot = 0; coming[tick] != 0 && shot < shots.count; shot++) {
                    if ((coming[tick] & 1 << shot) != 0) {
                        shoot(tick, shot);
                    }
                }
                downBehind[tick] = downNow;
                dentedBehind[tick] = dentedNow;
                timesHitBehind[tick] = timesHitNow;
            }
        }

        private void begin() {
            downNow = 0;
            dentedNow = 0;
            timesHitNow = 0;
            score = 0;
            hitting = 0;
            Arrays.fill(coming, 0);
            for (int shot = 0; shot < shots.count; shot++) {
                firstHit[shot] = NONE;
                brought[shot] = 0;
                int tick = comingTick(shot);
                if (tick != NONE) {
                    coming[tick] |= 1 << shot;
                }
            }
        }

        private void shoot(int tick, int shot) {
            int column = shots.column[shot] + pull - STRAIGHT + course.draught[tick];
            if (!within(column, COLUMNS)) {
                return;
            }
            for (int chain = shots.chain[shot]; chain < CHAINS; chain++) {
                int duck = course.duckAt(tick, chain, column);
                if (duck == NONE || isSet(downNow, duck)) {
                    return;
                }
                strike(shot, duck);
                if (kindOf[duck] != GUM) {
                    return;
                }
            }
        }

        private void strike(int shot, int duck) {
            if (firstHit[shot] == NONE) {
                firstHit[shot] = duck;
            }
            hitting |= 1 << shot;
            timesHitNow += 1L << 4 * duck;
            int bit = 1 << duck;
            if (kindOf[duck] == HEAVY && (dentedNow & bit) == 0) {
                dentedNow |= bit;
                return;
            }
            dentedNow &= ~bit;
            downNow |= bit;
            brought[shot] += stand.worthOf[duck];
            score += stand.worthOf[duck];
        }
    }

    /** What was SEEN. */
    private static final class Seen {
        final int[] tickOf = new int[MOST_SEEN];
        final int[] duckOf = new int[MOST_SEEN];
        final int[] wasDown = new int[MOST_SEEN];
        int count;

        boolean isFull() {
            return count >= MOST_SEEN;
        }

        void append(int tick, int duck, int is) {
            tickOf[count] = tick;
            duckOf[count] = duck;
            wasDown[count] = is;
            count++;
        }

        /** Whether all comes out so, by the bits of DUCKS that are DOWN behind each TICK. */
        boolean fits(int[] downBehind, int ducks) {
            for (int i = 0; i < count; i++) {
                boolean is = isSet(downBehind[tickOf[i]], duckOf[i]);
                if (duckOf[i] >= ducks || is != (wasDown[i] == 1)) {
                    return false;
                }
            }
            return true;
        }
    }

    /** A SHEET; its items are held as ints, cut to its FORM as they come. */
    private static final class Sheet {
        final int[] items = new int[MOST_ITEMS];
        int form, length;
        boolean lost = true;

        void begin(int newForm, int n) {
            form = newForm;
            length = n;
            lost = false;
            Arrays.fill(items, 0);
        }

        boolean has(int from, int n) {
            return from >= 0 && n >= 0 && from <= length && n <= length - from;
        }

        void put(int i, int v) {
            switch (form) {
                case 0: items[i] = (byte) v; break;
                case 1: items[i] = (short) v; break;
                default: items[i] = v;
            }
        }
    }
}
