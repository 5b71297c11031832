import java.lang.reflect.InvocationTargetException;
import java.lang.reflect.Method;
import java.lang.reflect.Modifier;
import java.util.ArrayList;
import java.util.Arrays;
import java.util.Comparator;
import java.util.List;

/** Calls of the face by their names, on FareLimits and on the Reference alike. */
final class Calls {
    /** The document tells nothing of an object behind so many calls. */
    static final int MOST = 512;
    private static final List<Method> FACE = face();

    private Calls() {
    }

    static List<Method> face() {
        List<Method> open = new ArrayList<>();
        for (Method m : FareLimits.class.getDeclaredMethods()) {
            if (Modifier.isPublic(m.getModifiers())) {
                open.add(m);
            }
        }
        open.sort(Comparator.comparing(Method::getName));
        return open;
    }

    static Method named(String name) {
        for (Method m : FACE) {
            if (m.getName().equals(name)) {
                return m;
            }
        }
        throw new IllegalStateException(name);
    }

    static long ask(Object on, String name, long... numbers) {
        Class<?>[] types = named(name).getParameterTypes();
        if (types.length != numbers.length) {
            throw new IllegalStateException(written(name, numbers));
        }
        Object[] told = new Object[numbers.length];
        for (int i = 0; i < numbers.length; i++) {
            if (types[i] == long.class) {
                told[i] = numbers[i];
            } else {
                told[i] = Math.toIntExact(numbers[i]);
            }
        }
        return ask(on, named(name), told);
    }

    /** What a call throws is told as what it is: wrong. */
    static long ask(Object on, Method m, Object... numbers) {
        try {
            Method own = on.getClass().getMethod(m.getName(), m.getParameterTypes());
            return ((Number) own.invoke(on, numbers)).longValue();
        } catch (InvocationTargetException e) {
            e.getCause().printStackTrace();
            Due.holds(m.getName() + Arrays.toString(numbers) + " throws nothing", false);
            return Long.MIN_VALUE + 1;
        } catch (ReflectiveOperationException e) {
            throw new IllegalStateException(e);
        }
    }

    static String written(String name, long... numbers) {
        return name + Arrays.toString(numbers);
    }

    static void feed(Object on, String text) {
        for (char c : text.toCharArray()) {
            ask(on, "feed", c);
        }
    }

    /** The tape holds a text then, and nothing else. */
    static void tape(FareLimits x, String text) {
        x.clear();
        feed(x, text);
    }

    static int book(FareLimits x, String text) {
        tape(x, text);
        return x.book();
    }

    static int ends(FareLimits x, String text) {
        tape(x, text);
        return x.ends();
    }

    static int replay(FareLimits x, String text, int what) {
        tape(x, text);
        return x.replay(what);
    }

    static int byHand(FareLimits x, String text, int what) {
        tape(x, text);
        return x.byHand(what);
    }
}
