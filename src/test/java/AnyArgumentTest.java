import java.lang.reflect.InvocationTargetException;
import java.lang.reflect.Method;
import java.lang.reflect.Modifier;
import java.util.ArrayList;
import java.util.List;

/** Every call of the face, in several states, with arguments in and far out of every range. */
public final class AnyArgumentTest {
    private static final int[] NUMBERS = {0, 1, 2, 6, 7, 13, 14, 15, 19, 20, 127, 128, -1, -2, -128, 255,
        65536, Integer.MIN_VALUE, Integer.MIN_VALUE + 1, Integer.MAX_VALUE};
    private static final long[] TAPES = {0L, 1L, 7L, 8L, -1L, 1L << 44, 1L << 45, 1L << 62, 0x123456789ABCDEFL,
        Long.MIN_VALUE, Long.MAX_VALUE};
    private static final int STATES = 5;

    private AnyArgumentTest() {
    }

    public static void main(String[] args) throws ReflectiveOperationException {
        int calls = 0;
        for (Method call : FootprintNet.class.getDeclaredMethods()) {
            if (Modifier.isPublic(call.getModifiers())) {
                calls++;
                for (int state = 0; state < STATES; state++) {
                    everyArgument(call, state);
                }
            }
        }
        Check.due("calls of the face", calls, 19);
        Check.end();
    }

    private static void everyArgument(Method call, int state) throws ReflectiveOperationException {
        Method asDue = Reference.class.getDeclaredMethod(call.getName(), call.getParameterTypes());
        FootprintNet x = null;
        Reference r = null;
        int made = 0;
        for (Object[] arguments : argumentsOf(call)) {
            // 512 calls are an object's most, and no state takes more than 350 to be made.
            if (made % 150 == 0) {
                x = new FootprintNet();
                r = new Reference();
                bring(x, r, state);
            }
            made++;
            String told = call.getName() + List.of(arguments) + " in state " + state;
            Check.due(told, number(answer(call, x, arguments, told)), number(answer(asDue, r, arguments, told)));
        }
    }

    private static List<Object[]> argumentsOf(Method call) {
        List<Object[]> all = new ArrayList<>();
        Class<?>[] types = call.getParameterTypes();
        if (types.length == 0) {
            all.add(new Object[0]);
        } else if (types[0] == long.class) {
            for (long tape : TAPES) {
                all.add(new Object[] {tape});
            }
        } else if (types.length == 1) {
            for (int n : NUMBERS) {
                all.add(new Object[] {n});
            }
        } else {
            for (int n : NUMBERS) {
                for (int m : NUMBERS) {
                    all.add(new Object[] {n, m});
                }
            }
        }
        return all;
    }

    private static Object answer(Method call, Object object, Object[] arguments, String told)
            throws ReflectiveOperationException {
        try {
            return call.invoke(object, arguments);
        } catch (InvocationTargetException e) {
            return Check.failed(told + " threw " + e.getCause());
        }
    }

    private static long number(Object answer) {
        if (answer instanceof Boolean held) {
            return held ? 1L : 0L;
        }
        return answer == null ? 0L : ((Number) answer).longValue();
    }

    /** The same calls on both: nothing, a little, full, wide, and more pairs than a net can have. */
    private static void bring(FootprintNet x, Reference r, int state) {
        if (state == 1) {
            log(x, r, new int[][] {{0, 1, 2, 3}, {0, 2, 1, 3}, {}, {0, 4, 4, 3}});
            net(x, r, 1, 8, 1, 2, 1, 4, 2, 8, 4, 8);
        } else if (state == 2) {
            for (int t = 0; t < 20; t++) {
                log(x, r, new int[][] {{t % 7, 1, 2, 3, 4, 5, 6, 0, 1, 2, 3, 4, 5, 6, t % 5}});
            }
            net(x, r, 1, 64, 1, 2, 2, 4, 4, 8, 8, 16, 16, 32, 32, 64, 1, 4, 2, 8, 4, 16, 8, 32, 16, 64, 1, 8,
                    2, 16, 4, 32);
        } else if (state == 3) {
            log(x, r, new int[][] {{5, 5, 5, 5, 5, 5, 5, 5, 5, 5, 5, 5, 5, 5, 5}, {0, 6, 6}});
            net(x, r, 1, 2, 4, 8);
        } else if (state == 4) {
            log(x, r, Build.walks(Build.allSteps(0)).toArray(new int[0][]));
            net(x, r, 127, 127);
        }
        Check.due("mine() in state " + state, x.mine(), r.mine());
    }

    private static void log(FootprintNet x, Reference r, int[][] traces) {
        for (int[] trace : traces) {
            Build.trace(x, trace);
            r.begin();
            for (int a : trace) {
                r.event(a);
            }
        }
    }

    private static void net(FootprintNet x, Reference r, int first, int last, int... sets) {
        x.ends(first, last);
        r.ends(first, last);
        for (int k = 0; k < sets.length; k += 2) {
            x.place(sets[k], sets[k + 1]);
            r.place(sets[k], sets[k + 1]);
        }
    }
}
