import java.lang.reflect.InvocationTargetException;
import java.lang.reflect.Method;
import java.lang.reflect.Modifier;
import java.util.ArrayList;
import java.util.Arrays;
import java.util.Comparator;
import java.util.List;

/** Any calls in any order, 512 of them for each hall: nothing is thrown but what the face of the document names. */
public final class AnyCallTest {
    private static final int HALLS = 400;
    private static final int CALLS = 512;
    private static final int[] NUMBERS = {Integer.MIN_VALUE, -5001, -5000, -501, -1, 0, 0, 0, 1, 1, 1, 2, 2, 3, 3, 4, 5, 6, 8, 9,
        12, 13, 15, 16, 40, 100, 101, 500, 501, 1000, 1001, 2000, 2001, 5000, 5001, 10000, 10001, Integer.MAX_VALUE};
    private static final long[] LONGS = {Long.MIN_VALUE, -1, 0, 1, 2, 6, 5040, 1000000000L, 1000000001L, Long.MAX_VALUE};
    private static final String CHARS = "bohctnHNdabcdabsmplrlrx+-?";
    private static long seed = 512;

    public static void main(String[] args) throws IllegalAccessException {
        List<Method> face = new ArrayList<>();
        for (Method each : Beaverhall.class.getDeclaredMethods()) {
            if (Modifier.isPublic(each.getModifiers())) {
                face.add(each);
            }
        }
        face.sort(Comparator.comparing(Method::getName));
        for (int i = 0; i < HALLS; i++) {
            Beaverhall hall = new Beaverhall();
            // Half of the halls are filled at first, so that calls find something.
            for (int k = 0; k < CALLS; k++) {
                if (i % 2 == 0 && k < 60) {
                    fill(hall, k);
                } else {
                    call(hall, face.get(next(face.size())), i % 4 < 2);
                }
            }
        }
        Due.end();
    }

    private static int next(int below) {
        seed = seed * 6364136223846793005L + 1442695040888963407L;
        return (int) ((seed >>> 33) % below);
    }

    private static void fill(Beaverhall hall, int k) {
        if (k % 20 == 0) {
            hall.machine(k == 40 ? 'o' : 'b', 3, 3);
        } else if (k % 20 < 10) {
            hall.order(k / 20, next(3), next(3), next(3), next(2) == 0 ? 'l' : 'r', next(3));
        } else if (k % 20 < 13) {
            hall.count(next(2) == 0 ? '+' : '-', next(4), next(13), next(13));
        } else if (k % 20 < 15) {
            hall.tagRow((char) ('a' + next(4)), (char) ('a' + next(4)));
        } else if (k % 20 < 18) {
            hall.tagStart((char) ('a' + next(4)));
        } else {
            hall.fraction(1 + next(30), 1 + next(30));
        }
    }

    private static void call(Beaverhall hall, Method method, boolean small) throws IllegalAccessException {
        Class<?>[] types = method.getParameterTypes();
        Object[] arguments = new Object[types.length];
        for (int i = 0; i < types.length; i++) {
            if (types[i] == char.class) {
                arguments[i] = CHARS.charAt(next(CHARS.length()));
            } else if (types[i] == long.class) {
                arguments[i] = LONGS[next(LONGS.length)];
            } else {
                arguments[i] = small && next(4) > 0 ? next(4) : NUMBERS[next(NUMBERS.length)];
            }
        }
        Class<?> thrown = null;
        try {
            method.invoke(hall, arguments);
        } catch (InvocationTargetException e) {
            thrown = e.getCause().getClass();
        }
        boolean named = thrown == null || Arrays.asList(method.getExceptionTypes()).contains(thrown);
        Due.is(method.getName() + Arrays.toString(arguments) + " threw " + thrown + ", which is named", named, true);
    }
}
