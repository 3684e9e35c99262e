import java.lang.reflect.InvocationTargetException;
import java.lang.reflect.Method;
import java.util.ArrayList;
import java.util.Arrays;
import java.util.Comparator;
import java.util.List;
import java.util.function.IntSupplier;
import java.util.function.IntUnaryOperator;

/** Runs each test of a class (its methods that bear Says) on an object of its own, and names those that fail. */
abstract class Cases {
    static final int MIN = Integer.MIN_VALUE;
    static final int MAX = Integer.MAX_VALUE;
    static final int NONE = -1;
    static final int NOT_SO_MANY = -2;

    // Values 4 9 4 2 9 4 7 2 2 at places 0 to 8; 4 and 2 stand three times, 9 twice, 7 once.
    static final String ROW = "row 4 9 4 2 9 4 7 2 2;weight 1 5;weight 3 3;block 3;";

    private final List<String> wrong = new ArrayList<>();
    private int asked = 0;

    interface OfSpan {
        int ask(int l, int r);
    }

    // ---- what is due ----

    final void due(int got, int want) {
        due("the call", got, want);
    }

    final void due(String call, int got, int want) {
        asked++;
        if (got != want) {
            wrong.add("line " + line() + ": " + call + " answered " + got + ", due is " + want);
        }
    }

    final void due(boolean got, boolean want) {
        due("the call (1 true, 0 false)", got ? 1 : 0, want ? 1 : 0);
    }

    private static int line() {
        return StackWalker.getInstance().walk(frames -> frames
            .filter(f -> !f.getClassName().equals("Cases")).findFirst().map(StackWalker.StackFrame::getLineNumber).orElse(0));
    }

    /** Asks with 0, 1, 2 and so on. */
    final void each(IntUnaryOperator ask, int... want) {
        for (int i = 0; i < want.length; i++) {
            due("asked with " + i, ask.applyAsInt(i), want[i]);
        }
    }

    final void row(ModeDesk x, int... values) {
        due("count(0)", x.count(0), values.length);
        each(p -> Told.place(x, p, 0), values);
    }

    final void weights(ModeDesk x, int... weights) {
        each(p -> Told.place(x, p, 1), weights);
    }

    /** Each call answers NONE and leaves all as it is. */
    final void refused(ModeDesk x, IntSupplier... calls) {
        unchanged(x, () -> {
            for (int i = 0; i < calls.length; i++) {
                due("refused call " + i, calls[i].getAsInt(), NONE);
            }
        });
    }

    /** No span that there is not has an answer, nor has any one of an empty row. */
    final void noSpan(ModeDesk x, OfSpan ask) {
        int n = x.count(0);
        int[][] spans = {{-1, 0}, {-1, n - 1}, {-1, -1}, {MIN, 0}, {MIN, MIN}, {0, n}, {n - 1, n}, {n, n}, {0, MAX}, {MAX, MAX},
            {1, 0}, {n - 1, 0}, {n - 1, n - 2}, {0, -1}, {0, MIN}, {MIN, MAX}, {MAX, MIN}};
        unchanged(x, () -> {
            for (int[] s : spans) {
                due("of no such span " + s[0] + ", " + s[1], ask.ask(s[0], s[1]), NONE);
            }
        });
    }

    final void unchanged(ModeDesk x, Runnable calls) {
        String ahead = state(x);
        calls.run();
        String behind = state(x);
        asked++;
        if (!behind.equals(ahead)) {
            wrong.add("line " + line() + ": what was\n" + ahead + "\nhas become\n" + behind);
        }
    }

    /** What can be seen of a desk from outside; of small rows alone, as an object is good for 512 calls. */
    static String state(ModeDesk x) {
        StringBuilder s = new StringBuilder("counts");
        for (int what = 0; what <= 8; what++) {
            s.append(' ').append(x.count(what));
        }
        s.append(" refreshed ").append(x.refreshed()).append(" fault ").append(x.fault(0)).append(" at ").append(x.fault(1));
        for (int p = 0; p < x.count(0); p++) {
            s.append(p == 0 ? " row" : "").append(' ').append(Told.place(x, p, 0)).append('/').append(Told.place(x, p, 1));
        }
        for (int k = 1; k <= x.count(6); k++) {
            s.append(" was");
            for (int p = 0, v = x.was(k, 0); v >= 0; p++, v = x.was(k, p)) {
                s.append(' ').append(v);
            }
        }
        return s.toString();
    }

    // ---- rows ----

    static ModeDesk desk(int... values) {
        ModeDesk x = new ModeDesk();
        for (int v : values) {
            x.insert(x.count(0), v);
        }
        return x;
    }

    /** ROW, and two edits behind it: 4 9 4 2 9 4 7 2 3. */
    static ModeDesk edited() {
        ModeDesk x = Told.desk(ROW);
        x.weigh(0, 2);
        x.set(8, 3);
        return x;
    }

    /** 120 values told as a text, so that there is nothing to undo. */
    static ModeDesk full(IntUnaryOperator values, String lines) {
        StringBuilder s = new StringBuilder("row");
        for (int p = 0; p < 120; p++) {
            s.append(' ').append(values.applyAsInt(p));
        }
        return Told.desk(s.append(';').append(lines).toString());
    }

    // ---- the run ----

    static List<Method> testsOf(Class<?> kind) {
        List<Method> tests = new ArrayList<>();
        for (Method m : kind.getDeclaredMethods()) {
            if (m.isAnnotationPresent(Says.class)) {
                tests.add(m);
            }
        }
        tests.sort(Comparator.comparing(Method::getName));
        return tests;
    }

    static void run(Class<? extends Cases> kind) throws ReflectiveOperationException {
        int failed = 0;
        List<Method> tests = testsOf(kind);
        for (Method test : tests) {
            List<String> wrong = kind.getDeclaredConstructor().newInstance().wrongOf(test);
            failed += wrong.isEmpty() ? 0 : 1;
            for (String w : wrong) {
                System.out.println(kind.getName() + "." + test.getName() + " " + Arrays.toString(test.getAnnotation(Says.class).value())
                    + ", " + w);
            }
        }
        System.out.println(kind.getName() + ": " + tests.size() + " tests, " + failed + " failed");
        if (failed != 0 || tests.isEmpty()) {
            System.exit(1);
        }
    }

    final List<String> wrongOf(Method test) throws IllegalAccessException {
        try {
            test.invoke(this);
        } catch (InvocationTargetException e) {
            wrong.add("threw " + e.getCause());
        }
        if (asked == 0) {
            wrong.add("asked nothing");
        }
        return wrong;
    }
}
