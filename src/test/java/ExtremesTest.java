import java.lang.reflect.InvocationTargetException;
import java.lang.reflect.Method;

/** No call throws, whatever it is given, in a new house and in one that is full to every bound. */
public final class ExtremesTest {
    private static final long[] NUMBERS = {Long.MIN_VALUE, Integer.MIN_VALUE, -1, 0, 1, 7, 8, 12, 39, 40, 59, 60, 61, 400, 9999, 10000,
        Integer.MAX_VALUE, 1L << 40, Long.MAX_VALUE};
    private static final Due due = new Due();

    public static void main(String[] args) throws IllegalAccessException {
        for (Method m : GazetteHouse.class.getDeclaredMethods()) {
            if ((m.getModifiers() & java.lang.reflect.Modifier.PUBLIC) != 0) {
                callAll(new GazetteHouse(), m);
                callAll(fullHouse(), m);
            }
        }
        due.end();
    }

    private static GazetteHouse fullHouse() {
        GazetteHouse x = new GazetteHouse();
        for (int i = 0; i < 12; i++) {
            Due.form(x, "a:word;b:day;c:span 3 work b;d:span 9999 days c;e:one p/q/r/s;f:num 0..9999?;g:span 1 work d;h:word?");
        }
        for (int i = 0; i < 60; i++) {
            int n = Due.notice(x, i % 12, "a=x;b=" + i + ";e=s;h=" + (char) ('a' + i % 26), 1, i);
            for (int law = 0; law < 4; law++) {
                x.says(n, 39, i, i);
            }
            x.corrects(n, n - 1);
            x.renames(n, 1 + i % 26, 1 + (i + 1) % 26);
            x.strikes(n, 1 + i % 26);
        }
        for (int i = 0; i < 40; i++) {
            x.issue(i, i + 1, 1, 10);
        }
        for (int i = 0; i < 60; i++) {
            x.feast(9940 + i, true);
        }
        for (int i = 0; i < 100; i++) {
            x.feast(9940, i % 2 != 0);
        }
        for (int i = 0; i < 20; i++) {
            x.feed(-1, 0, 1, Integer.MIN_VALUE, Integer.MAX_VALUE);
        }
        int[] full = {60, 12, 60, 40, 0, 100, 400};
        for (int what = 0; what < full.length; what++) {
            due.is("count(" + what + ") of the full house", x.count(what), full[what]);
        }
        return x;
    }

    private static void callAll(GazetteHouse x, Method m) throws IllegalAccessException {
        Class<?>[] types = m.getParameterTypes();
        int ways = (int) Math.min(40000, Math.pow(NUMBERS.length, types.length));
        Object[] given = new Object[types.length];
        for (int way = 0; way < ways; way++) {
            int rest = way;
            for (int i = 0; i < types.length; i++) {
                given[i] = as(types[i], NUMBERS[rest % NUMBERS.length]);
                rest /= NUMBERS.length;
            }
            try {
                m.invoke(x, given);
            } catch (InvocationTargetException e) {
                due.is(m.getName() + java.util.Arrays.toString(given) + " threw " + e.getCause(), 1, 0);
            }
        }
        due.is(m.getName() + " called with all", 0, 0);
    }

    private static Object as(Class<?> type, long number) {
        if (type == boolean.class) {
            return number % 2 != 0;
        }
        return type == long.class ? (Object) number : (Object) (int) number;
    }
}
