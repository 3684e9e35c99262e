import java.lang.reflect.InvocationTargetException;
import java.lang.reflect.Method;
import java.util.Arrays;
import java.util.Comparator;
import java.util.NoSuchElementException;

/** Every call with any numbers at all: none but place may throw, and place only what the document names. */
public final class WildTest {
    private static final int[] EDGES = {Integer.MIN_VALUE, Integer.MIN_VALUE + 1, -1000, -121, -2, -1, 0, 1, 2, 3, 7, 8, 11, 12, 13,
        118, 119, 120, 121, 899, 900, 901, 999, 1000, 1001, Integer.MAX_VALUE - 119, Integer.MAX_VALUE - 1, Integer.MAX_VALUE};

    private final Check check = new Check();
    private long seed = 5;

    public static void main(String[] args) throws IllegalAccessException {
        WildTest test = new WildTest();
        for (int run = 0; run < 300; run++) {
            test.run(run);
        }
        test.check.end("WildTest");
    }

    private int below(int bound) {
        seed = seed * 6364136223846793005L + 1442695040888963407L;
        return (int) ((seed >>> 33) % bound);
    }

    private int number(int places) {
        return below(3) == 0 ? EDGES[below(EDGES.length)] : below(places + 1);
    }

    private void run(int run) throws IllegalAccessException {
        ModeDesk x = new ModeDesk();
        int places = new int[] {0, 1, 5, 30, 120}[run % 5];
        for (int p = 0; p < places; p++) {
            x.insert(p, below(2 + run % 9));
        }
        Method[] methods = Arrays.stream(ModeDesk.class.getDeclaredMethods())
            .filter(m -> java.lang.reflect.Modifier.isPublic(m.getModifiers()))
            .sorted(Comparator.comparing(Method::getName)).toArray(Method[]::new);
        for (int call = places; call < 512; call++) {
            call(x, methods[below(methods.length)], places);
        }
    }

    private void call(ModeDesk x, Method m, int places) throws IllegalAccessException {
        Object[] arguments = new Object[m.getParameterCount()];
        for (int i = 0; i < arguments.length; i++) {
            arguments[i] = m.getParameterTypes()[i] == boolean.class ? (Object) (below(2) == 0) : (Object) number(places);
        }
        boolean good = true;
        try {
            m.invoke(x, arguments);
        } catch (InvocationTargetException e) {
            Class<?> thrown = e.getCause().getClass();
            good = m.getName().equals("place") && (thrown == IndexOutOfBoundsException.class || thrown == NoSuchElementException.class);
        }
        check.due(m.getName() + Arrays.toString(arguments) + " threw nothing of its own", good, true);
    }
}
