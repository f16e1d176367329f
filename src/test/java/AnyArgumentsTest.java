import java.lang.reflect.Method;
import java.lang.reflect.Modifier;
import java.util.List;
import java.util.function.Supplier;

/** Rule 7 of LANGUAGE.md: no call throws, whatever it is asked with and whatever there is. */
public final class AnyArgumentsTest {
    private static final int[] SOME = {Integer.MIN_VALUE, -65536, -2, -1, 0, 1, 5, 6, 7, 8, 10, 64, 256, Integer.MAX_VALUE};
    private static final List<Supplier<FellTree>> GROUNDS = List.of(FellTree::new, Grounds::busy, Grounds::full);
    /** An object is used for 512 calls at most; some of them were those that made its ground. */
    private static final int CALLS = 250;

    public static void main(String[] args) throws Exception {
        for (Supplier<FellTree> ground : GROUNDS) {
            for (Method method : FellTree.class.getDeclaredMethods()) {
                if (Modifier.isPublic(method.getModifiers())) {
                    ask(ground, method);
                }
            }
        }
        Due.end();
    }

    private static void ask(Supplier<FellTree> ground, Method method) throws Exception {
        int size = method.getParameterCount();
        int rows = 1;
        for (int i = 0; i < size; i++) {
            rows *= SOME.length;
        }
        FellTree x = null;
        for (int row = 0; row < rows; row++) {
            x = row % CALLS == 0 ? ground.get() : x;
            Object[] with = new Object[size];
            int rest = row;
            for (int i = 0; i < size; i++) {
                int n = SOME[rest % SOME.length];
                with[i] = method.getParameterTypes()[i] == long.class ? (Object) ((long) n << 32 | n & 1) : (Object) n;
                rest /= SOME.length;
            }
            Object answer = method.invoke(x, with);
            Due.holds(method.getName() + " answers", answer instanceof Number);
        }
    }
}
