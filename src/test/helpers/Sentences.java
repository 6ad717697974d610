import java.lang.reflect.InvocationTargetException;
import java.lang.reflect.Method;
import java.util.Arrays;
import java.util.Comparator;
import java.util.List;
import java.util.function.Supplier;
import java.util.function.ToIntFunction;

/**
 * What the classes of boundary tests have in common. Each of their tests is a static method that says which words of the
 * document it holds the class to.
 */
abstract class Sentences {
    static final int UNKNOWN = PeerNotes.UNKNOWN;
    static final int BAD_VALUE = PeerNotes.BAD_VALUE;
    static final int FULL = PeerNotes.FULL;
    static final int NOT_POSSIBLE = PeerNotes.NOT_POSSIBLE;
    static final int NONE = PeerNotes.NONE;
    static final int MOST = Integer.MAX_VALUE;
    static final int LEAST = Integer.MIN_VALUE;

    private static String test = "";
    private static int wrong = 0;

    /** Runs all tests of the class; ends with exit code 1 if one failed or there was none. */
    static void run(Class<?> tests) {
        List<Method> methods = testsOf(tests);
        for (Method method : methods) {
            Says says = method.getAnnotation(Says.class);
            test = says.in() + ", " + String.join(" / ", says.value()) + " (" + method.getName() + ")";
            call(method);
        }
        System.out.println(methods.size() + " tests of " + tests.getName() + ", " + wrong + " answers are not as due");
        if (wrong != 0 || methods.isEmpty()) {
            System.exit(1);
        }
    }

    static List<Method> testsOf(Class<?> tests) {
        return Arrays.stream(tests.getDeclaredMethods())
            .filter(method -> method.getAnnotation(Says.class) != null)
            .sorted(Comparator.comparing(Method::getName))
            .toList();
    }

    private static void call(Method method) {
        try {
            method.invoke(null);
        } catch (InvocationTargetException thrown) {
            tell("threw " + thrown.getCause());
        } catch (IllegalAccessException thrown) {
            tell("cannot be called: " + thrown);
        }
    }

    private static void tell(String fault) {
        wrong++;
        System.out.println(test + ": " + fault);
    }

    static void due(String call, long got, long want) {
        if (got != want) {
            tell(call + " answered " + got + ", due is " + want);
        }
    }

    static void dueRows(String call, int[] got, int... want) {
        if (!Arrays.equals(got, want)) {
            tell(call + " answered " + Arrays.toString(got) + ", due is " + Arrays.toString(want));
        }
    }

    /** Two tellings of a market are the same; the first row that is not is told. */
    static void same(String when, List<String> got, List<String> want) {
        for (int i = 0; i < Math.max(got.size(), want.size()); i++) {
            String one = i < got.size() ? got.get(i) : "nothing";
            String other = i < want.size() ? want.get(i) : "nothing";
            if (!one.equals(other)) {
                tell(when + ": " + one + ", due is " + other);
                return;
            }
        }
    }

    /**
     * The call is an act: it records the state that was before it, once, and leaves the states before that one. Takes
     * some 500 calls beside those of the making, for a small market.
     */
    static void act(String call, Supplier<PeerNotes> make, ToIntFunction<PeerNotes> act, int want) {
        PeerNotes x = make.get();
        x.setPoolShare(49);
        int states = x.count(16);
        List<String> before = Markets.told(x);
        due(call, act.applyAsInt(x), want);
        due(call + ", then count(16)", x.count(16), Math.min(4, states + 1));
        due(call + ", then undo()", x.undo(), Math.min(4, states + 1) - 1);
        same(call + ", then undo()", Markets.told(x), before);
        due(call + ", then undo() again", x.undo(), Math.min(4, states + 1) - 2);
        same(call + ", then undo() again", Markets.told(x), Markets.told(make.get()));
    }

    /** The call is no act: it records no state. */
    static void noAct(String call, PeerNotes x, ToIntFunction<PeerNotes> method) {
        int states = x.count(16);
        method.applyAsInt(x);
        due(call + ", then count(16)", x.count(16), states);
    }

    /** The call is refused, and records no state. */
    static void refused(String call, PeerNotes x, ToIntFunction<PeerNotes> method, int want) {
        int states = x.count(16);
        due(call, method.applyAsInt(x), want);
        due(call + ", then count(16)", x.count(16), states);
    }
}
