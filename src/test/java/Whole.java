import java.util.Arrays;
import java.util.function.Consumer;
import java.util.function.Supplier;

/**
 * All that can be got out of an object, to see whether a call changed anything. What is read is used up, and an object
 * has 512 calls: so it is read from objects that were made alike.
 */
final class Whole {
    private final long[] numbers = new long[600];
    private int many;

    private Whole() {}

    /** Whether an object on which this was done is as one on which it was not, but for the number of the latest FINDING. */
    static boolean isUnchangedBy(Supplier<TinDucks> made, Consumer<TinDucks> done) {
        TinDucks told = made.get();
        TinDucks sheets = made.get();
        done.accept(told);
        done.accept(sheets);
        return Arrays.equals(ofTold(told), ofTold(made.get())) && Arrays.equals(ofSheets(sheets), ofSheets(made.get()));
    }

    private static long[] ofTold(TinDucks x) {
        Whole all = new Whole();
        all.add(x.digest());
        all.add(x.rifle(0, 2));
        all.add(x.rifle(1, 1));
        all.add(x.digest());
        for (int left = x.count(3); left > 0; left--) {
            all.add(x.back());
            all.add(x.digest());
        }
        all.add(x.forget());
        all.add(x.digest());
        for (int text = 0; text < 3; text++) {
            for (int left = Told.TEXT_LIMITS[text]; left >= 0; left--) {
                all.add(x.fault(text));
                all.add(x.undo(text));
            }
        }
        return all.numbers;
    }

    private static long[] ofSheets(TinDucks x) {
        Whole all = new Whole();
        for (int s = 0; s < 4; s++) {
            for (int form = 0; form < 3; form++) {
                int item = x.get(s, form, 0);
                all.add(item);
                all.add(item == Told.LEAST ? x.count(8) : 0);
                for (int i = 1; item != Told.LEAST; i++) {
                    item = x.get(s, form, i);
                    all.add(item);
                }
            }
            all.add(x.lose(s));
        }
        return all.numbers;
    }

    private void add(long number) {
        numbers[many] = number;
        many++;
    }
}
