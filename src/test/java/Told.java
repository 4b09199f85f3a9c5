/** Makes galleries from texts, as a test would rather write them. */
final class Told {
    static final int LEAST = Integer.MIN_VALUE, GREATEST = Integer.MAX_VALUE;
    static final long LEAST_LONG_BAD = Long.MIN_VALUE + 2;
    static final int[] TEXT_LIMITS = {8, 59, 47};
    /** Texts that have no room for a byte more: three CHAINS, twelve DUCKS, twelve SHOTS. */
    static final String[] FULL_TEXTS = {
        "r1;l2;r3",
        "0at1;0bh2;0cg3;0dt4;1ag5;1bh6;1ct7;1lt8;2ag9;2ct1;2dh2;2lg3",
        "a00;a01;b02;b03;c10;c11;d12;e20;e21;f05;k03;x00",
    };
    /** A DUCK of tin at every PLACE of CHAIN 0, the number of each being its PLACE. */
    static final String ROUND_OF_TIN = "0at1;0bt2;0ct3;0dt4;0et5;0ft6;0gt7;0ht8;0it9;0jt1;0kt2;0lt3";

    private Told() {}

    static TinDucks of(String chains, String ducks, String shots) {
        TinDucks x = new TinDucks();
        text(x, 0, chains);
        text(x, 1, ducks);
        text(x, 2, shots);
        return x;
    }

    /** Chains that stand still, and a rifle whose shots come at once. */
    static TinDucks still(String ducks, String shots) {
        TinDucks x = of("r0;r0;r0", ducks, shots);
        x.rifle(1, 0);
        return x;
    }

    /** All texts, events, seen are full; sheets 0 to 2 are rows of bytes, shorts, ints, the last is lost. */
    static TinDucks full() {
        TinDucks x = of(FULL_TEXTS[0], FULL_TEXTS[1], FULL_TEXTS[2]);
        for (int i = 0; i < 8; i++) {
            x.event(i % 3, i, i);
            x.seen(i, i, i % 2);
        }
        x.sheet(0, 0, 60);
        x.sheet(1, 1, 4);
        x.sheet(2, 2, 0);
        for (int i = 0; i < 4; i++) {
            x.lay(0, 0, i, 40 + i);
            x.lay(1, 1, i, 50 + i);
        }
        return x;
    }

    /** Wipes a text and types another; answers how many bytes it has then. */
    static int text(TinDucks x, int text, String s) {
        x.wipe(text);
        int many = 0;
        for (int i = 0; i < s.length(); i++) {
            many = x.type(text, s.charAt(i));
        }
        return many;
    }
}
