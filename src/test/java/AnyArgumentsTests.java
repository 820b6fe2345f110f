import java.lang.reflect.InvocationTargetException;
import java.lang.reflect.Method;
import java.lang.reflect.Modifier;
import java.util.Arrays;
import java.util.List;
import java.util.function.Supplier;

/** LANGUAGE.md 7: no call throws, for any arguments in any state; the same calls give the same answers. */
public final class AnyArgumentsTests extends Due {
    private static final int[] ARGUMENTS = {
        LEAST, LEAST + 1, -2147483528, -65536, -257, -100, -32, -21, -20, -9, -8, -2, -1, 0, 1, 2, 3, 4, 5, 6, 7, 8,
        9, 19, 20, 21, 27, 28, 31, 32, 33, 59, 60, 61, 99, 100, 117, 119, 120, 255, 256, 65536, GREATEST - 1, GREATEST};

    public static void main(String[] args) throws IllegalAccessException {
        List<Supplier<SplicedWeb>> states = List.of(SplicedWeb::new, Due::busy, Due::broken, Due::full);
        for (Method m : SplicedWeb.class.getDeclaredMethods()) {
            if (!Modifier.isPublic(m.getModifiers())) {
                continue;
            }
            for (int state = 0; state < states.size(); state++) {
                tryAll(m, states.get(state), " in state " + state);
            }
        }
        finish();
    }

    private static void tryAll(Method m, Supplier<SplicedWeb> made, String where) throws IllegalAccessException {
        int[] firsts = m.getParameterCount() > 0 ? ARGUMENTS : new int[] {0};
        int[] seconds = m.getParameterCount() > 1 ? ARGUMENTS : new int[] {0};
        for (int first : firsts) {
            for (int second : seconds) {
                String call = m.getName() + "(" + first + ", " + second + ")" + where;
                int one = answer(call, m, made.get(), first, second);
                due(call, answer(call, m, made.get(), first, second), one);
            }
        }
    }

    private static int answer(String call, Method m, SplicedWeb x, int first, int second)
            throws IllegalAccessException {
        Object[] all = {first, second};
        try {
            return (int) m.invoke(x, Arrays.copyOf(all, m.getParameterCount()));
        } catch (InvocationTargetException e) {
            due(call + " threw " + e.getCause() + " and", 1, 0);
            return 0;
        }
    }
}
