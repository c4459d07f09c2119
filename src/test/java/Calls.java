import java.lang.reflect.InvocationTargetException;
import java.lang.reflect.Method;
import java.lang.reflect.Modifier;

/** Calls that are told as texts, "feel(0, 1, 9)", so that tables of them can be run on any object with the document's face. */
final class Calls {
    private Calls() {
    }

    static long answer(Object on, String call) {
        int open = call.indexOf('(');
        String inside = call.substring(open + 1, call.lastIndexOf(')')).trim();
        String[] words = inside.isEmpty() ? new String[0] : inside.split(",");
        Object[] given = new Object[words.length];
        for (int i = 0; i < given.length; i++) given[i] = Long.parseLong(words[i].trim());
        return answer(on, call.substring(0, open), given);
    }

    /** What the machine itself throws in a call comes out as IllegalStateException. */
    static long answer(Object on, String name, Object[] longs) {
        Method method = method(on, name);
        Class<?>[] types = method.getParameterTypes();
        Object[] args = new Object[longs.length];
        for (int i = 0; i < args.length; i++) {
            long v = (Long) longs[i];
            if (types[i] == long.class) args[i] = v;
            else args[i] = (int) v;
        }
        try {
            return ((Number) method.invoke(on, args)).longValue();
        } catch (InvocationTargetException e) {
            throw new IllegalStateException(name + " threw " + e.getCause(), e.getCause());
        } catch (IllegalAccessException e) {
            throw new IllegalStateException(e);
        }
    }

    static void all(Object on, String... calls) {
        for (String call : calls) answer(on, call);
    }

    /** The call that brings up to 8 bytes to THE TAPE. */
    static String fed(String bytes) {
        long word = 0;
        for (int i = 0; i < bytes.length(); i++) word |= (long) bytes.charAt(i) << (8 * i);
        return "feed(" + word + ", " + bytes.length() + ")";
    }

    private static Method method(Object on, String name) {
        for (Method m : on.getClass().getDeclaredMethods()) {
            if (m.getName().equals(name) && Modifier.isPublic(m.getModifiers())) return m;
        }
        throw new IllegalStateException("no method " + name);
    }
}
