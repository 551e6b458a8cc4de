import java.lang.reflect.InvocationTargetException;
import java.lang.reflect.Method;
import java.lang.reflect.Modifier;
import java.util.Arrays;
import java.util.Comparator;

/** No call ever throws, whatever its arguments, in whatever state a run of 512 calls has brought the room. */
public final class AnyArgumentsTest {
    private static final int[] ODD = {Integer.MIN_VALUE, Integer.MAX_VALUE, -1000, -9, -2, -1, 20, 24, 31, 32, 48, 49, 99, 120, 121, 1000, 1111, 5555, 1 << 30};
    private static long seed = 77;

    public static void main(String[] args) throws IllegalAccessException {
        Method[] all = calls();
        for (int run = 0; run < 300; run++) {
            LostRoom x = Check.roomBy(run % 3 == 0 ? "" : "l0-50s3t4h5l9-60s4t4h2l1-99s2t1h1k1111^3k1112^5k1211^0u0/1u2/1");
            for (int i = 0; i < 450; i++) call(x, all[any(all.length)]);
        }
        Check.end();
    }

    /** The calls by their names, since the machine tells them in no order of its own. */
    private static Method[] calls() {
        Method[] all = Arrays.stream(LostRoom.class.getDeclaredMethods())
            .filter(m -> Modifier.isPublic(m.getModifiers()))
            .toArray(Method[]::new);
        Arrays.sort(all, Comparator.comparing(Method::getName));
        return all;
    }

    private static int any(int n) {
        seed = seed * 6364136223846793005L + 1442695040888963407L;
        return (int) ((seed >>> 33) % n);
    }

    private static void call(LostRoom x, Method m) throws IllegalAccessException {
        // a new book takes most of the state away: seldom
        if (m.getName().equals("book") && any(20) != 0) return;
        Object[] given = new Object[m.getParameterCount()];
        StringBuilder said = new StringBuilder(m.getName());
        for (int i = 0; i < given.length; i++) {
            if (m.getParameterTypes()[i] == boolean.class) given[i] = any(2) == 0;
            else given[i] = any(12) == 0 ? ODD[any(ODD.length)] : any(6);
            said.append(' ').append(given[i]);
        }
        int threw = 0;
        try {
            m.invoke(x, given);
        } catch (InvocationTargetException e) {
            threw = 1;
            said.append(" threw ").append(e.getCause());
        }
        Check.due(said.toString(), threw, 0);
    }
}
