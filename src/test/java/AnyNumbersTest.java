import java.lang.reflect.InvocationTargetException;
import java.lang.reflect.Method;
import java.lang.reflect.Modifier;
import java.util.ArrayList;
import java.util.List;

/** Every call with every choice of edge numbers, in some states: nothing is thrown, and each answer is that of Model. */
public final class AnyNumbersTest {
    private static final int[] EDGES = {Integer.MIN_VALUE, -2, -1, 0, 1, 2, 3, 4, 5, 11, 12, 23, 24, 60, 61, 255, 256, Integer.MAX_VALUE};
    private static final int[] FEWER = {Integer.MIN_VALUE, -1, 0, 1, 3, 4, 60, Integer.MAX_VALUE};
    /** An object has 512 calls; the states take some 300 of them. */
    private static final int CALLS_EACH = 150;
    private static final Due due = new Due();

    private TinDucks x = new TinDucks();
    private Model m = new Model();
    private int asked;

    public static void main(String[] args) throws ReflectiveOperationException {
        for (int state = 0; state < 4; state++) {
            for (Method call : TinDucks.class.getDeclaredMethods()) {
                if (Modifier.isPublic(call.getModifiers())) {
                    new AnyNumbersTest().tryAll(state, call);
                }
            }
        }
        due.end();
    }

    private void tell(int state) {
        x = new TinDucks();
        m = new Model();
        asked = 0;
        if (state >= 1) {
            String[] texts = {"r1;l2;r3", "0at1;0bh2;0cg3;1ct4;2ct5", "a01;b02;c03;a12"};
            for (int text = 0; text < 3; text++) {
                type(text, texts[text]);
            }
            for (int s = 0; s < 3; s++) {
                int many = s == 0 ? 60 : s == 1 ? 4 : 0;
                x.sheet(s, s, many);
                m.sheet(s, s, many);
            }
        }
        if (state >= 2) {
            x.read(0);
            m.read(0);
            for (int i = 0; i < 8; i++) {
                x.seen(i, i, i % 2);
                m.seen(i, i, i % 2);
            }
        }
        if (state >= 3) {
            for (int text = 0; text < 3; text++) {
                type(text, ";".repeat(60));
            }
        }
    }

    private void type(int text, String s) {
        for (int i = 0; i < s.length(); i++) {
            x.type(text, s.charAt(i));
            m.type(text, s.charAt(i));
        }
    }

    private void tryAll(int state, Method call) throws ReflectiveOperationException {
        int many = call.getParameterCount();
        int[] from = many >= 4 ? FEWER : EDGES;
        int rows = (int) Math.pow(from.length, many);
        Method model = Model.class.getDeclaredMethod(call.getName(), call.getParameterTypes());
        tell(state);
        for (int row = 0; row < rows; row++) {
            List<Object> numbers = new ArrayList<>();
            for (int i = 0, rest = row; i < many; i++, rest /= from.length) {
                numbers.add(from[rest % from.length]);
            }
            String told = "state " + state + ": " + call.getName() + numbers;
            long want = ((Number) model.invoke(m, numbers.toArray())).longValue();
            try {
                due.is(told, ((Number) call.invoke(x, numbers.toArray())).longValue(), want);
            } catch (InvocationTargetException e) {
                due.holds(told + " does not throw " + e.getCause(), false);
            }
            due.is(told + ": count(8)", x.count(8), m.count(8));
            asked += 2;
            if (want >= 0 || asked > CALLS_EACH) {
                tell(state);
            }
        }
    }
}
