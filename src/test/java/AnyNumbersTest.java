import java.lang.reflect.InvocationTargetException;
import java.lang.reflect.Method;
import java.lang.reflect.Modifier;
import java.util.ArrayList;
import java.util.List;

/** Every call with every choice of edge numbers, in some states: nothing is thrown, a refusal changes nothing. */
public final class AnyNumbersTest {
    private static final int[] EDGES = {Integer.MIN_VALUE, -2, -1, 0, 1, 2, 3, 4, 11, 12, 23, 24, 60, 61, 255, 256, Integer.MAX_VALUE};
    private static final int[] FEWER = {Integer.MIN_VALUE, -1, 0, 3, 60, Integer.MAX_VALUE};
    private static final Due due = new Due();

    public static void main(String[] args) throws IllegalAccessException {
        for (int state = 0; state < 4; state++) {
            for (Method call : TinDucks.class.getDeclaredMethods()) {
                if (Modifier.isPublic(call.getModifiers())) {
                    tryAll(state, call);
                }
            }
        }
        due.end();
    }

    private static TinDucks state(int state) {
        TinDucks x = new TinDucks();
        if (state >= 1) {
            x = Told.of("r1;l2;r3", "0at1;0bh2;0cg3;1ct4;2ct5", "a01;b02;c03;a12");
            x.sheet(0, 0, 60);
            x.sheet(1, 1, 4);
            x.sheet(2, 2, 0);
        }
        if (state >= 2) {
            x.read(0);
            for (int i = 0; i < 8; i++) {
                x.seen(i, i, i % 2);
            }
        }
        if (state >= 3) {
            for (int i = 0; i < 60; i++) {
                x.type(0, 59);
                x.type(1, 59);
                x.type(2, 59);
            }
        }
        return x;
    }

    private static void tryAll(int state, Method call) throws IllegalAccessException {
        int many = call.getParameterCount();
        int[] from = many >= 4 ? FEWER : EDGES;
        int rows = (int) Math.pow(from.length, many);
        TinDucks x = state(state);
        long before = x.digest();
        for (int row = 0; row < rows; row++) {
            List<Object> numbers = new ArrayList<>();
            for (int i = 0, rest = row; i < many; i++, rest /= from.length) {
                numbers.add(from[rest % from.length]);
            }
            long answer;
            try {
                answer = ((Number) call.invoke(x, numbers.toArray())).longValue();
            } catch (InvocationTargetException e) {
                due.holds(call.getName() + numbers + " does not throw " + e.getCause(), false);
                return;
            }
            boolean refused = answer <= -2 && answer >= -15 && !call.getName().equals("chain")
                || answer == Integer.MIN_VALUE || answer == Told.LEAST_LONG_BAD;
            if (refused && row % 7 == 0 && !call.getName().equals("get") && !call.getName().equals("digest")) {
                due.is(call.getName() + numbers + " refused: digest()", x.digest(), before);
            }
            if (!refused) {
                x = state(state);
            }
        }
        due.holds(call.getName() + " answered " + rows + " times", true);
    }
}
