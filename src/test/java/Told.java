/** Makes galleries from texts, as a test would rather write them. */
final class Told {
    static final int LEAST = Integer.MIN_VALUE;
    static final long LEAST_LONG_BAD = Long.MIN_VALUE + 2;

    private Told() {}

    static TinDucks of(String chains, String ducks, String shots) {
        TinDucks x = new TinDucks();
        text(x, 0, chains);
        text(x, 1, ducks);
        text(x, 2, shots);
        return x;
    }

    /** Wipes a text and types another; answers how many bytes it has then. */
    static int text(TinDucks x, int text, String s) {
        x.wipe(text);
        int many = 0;
        for (int i = 0; i < s.length(); i++) {
            many = x.type(text, s.charAt(i));
        }
        return many;
    }
}
