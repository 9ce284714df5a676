import java.lang.reflect.InvocationTargetException;
import java.lang.reflect.Method;
import java.lang.reflect.Modifier;
import java.util.Arrays;

/** Every call of the face with every mixture of odd arguments, in several states: nothing but what the face names is thrown. */
public final class ExtremesTest {
    private static final int[] ODD = {Integer.MIN_VALUE, -1, 0, 1, 6, 200, Integer.MAX_VALUE};

    /** What an object answers behind its 512th call is free, so that a new one is taken well ahead of that. */
    private static final int CALLS_OF_ONE = 400;

    private static AlignedRuns state(int which) {
        AlignedRuns x = new AlignedRuns();
        if (which >= 1) {
            Made.column(x, "range 15x2x2x4 of 200");
            Made.column(x, "equal 200 of 200");
        }
        if (which >= 2) {
            x.many(16, 0, 6, 0, 0);
            x.many(30, 1, 199, 0, 0);
            x.delete(3);
            x.turn(1);
        }
        if (which >= 3) {
            for (int i = 0; i < 4; i++) {
                x.many(360, 7, i, 0, 0);
            }
            x.many(14, 1, 1, 0, 0);
            x.feed(-1, -1, -1, -1, -1);
        }
        return x;
    }

    public static void main(String[] args) throws IllegalAccessException {
        for (int which = 0; which <= 3; which++) {
            for (Method method : AlignedRuns.class.getDeclaredMethods()) {
                if (Modifier.isPublic(method.getModifiers())) {
                    callAll(method, which);
                }
            }
        }
        Check.end("ExtremesTest");
    }

    private static void callAll(Method method, int which) throws IllegalAccessException {
        AlignedRuns x = state(which);
        int count = method.getParameterCount();
        int mixtures = (int) Math.pow(ODD.length, count);
        String strange = "";
        for (int m = 0; m < mixtures; m++) {
            if (m % CALLS_OF_ONE == CALLS_OF_ONE - 1) {
                x = state(which);
            }
            Object[] given = new Object[count];
            int rest = m;
            for (int i = 0; i < count; i++) {
                given[i] = ODD[rest % ODD.length];
                rest /= ODD.length;
            }
            try {
                method.invoke(x, given);
            } catch (InvocationTargetException e) {
                Class<?> thrown = e.getCause().getClass();
                if (!Arrays.asList(method.getExceptionTypes()).contains(thrown)) {
                    strange = thrown + " for " + Arrays.toString(given);
                }
            }
        }
        Check.due("state " + which + ", " + method.getName() + " throws otherwise", "", strange);
    }
}
