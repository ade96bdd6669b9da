import java.lang.reflect.InvocationTargetException;
import java.lang.reflect.Method;
import java.util.HashMap;
import java.util.Map;

/** Calls by name and numbers, on the class or on its plain likeness; a boolean is true by a number that isn't even. */
final class Calls {
    private final Object on;
    private final Map<String, Method> methods = new HashMap<>();

    Calls(Object on) {
        this.on = on;
        for (Method method : on.getClass().getDeclaredMethods()) {
            if (!java.lang.reflect.Modifier.isPrivate(method.getModifiers())) methods.put(method.getName(), method);
        }
    }

    int parameters(String name) {
        return methods.get(name).getParameterCount();
    }

    /** What the call answers, a boolean as 1 or 0; what it throws comes out as an error that names the call. */
    long answer(String name, int... numbers) {
        Method method = methods.get(name);
        Class<?>[] types = method.getParameterTypes();
        Object[] with = new Object[types.length];
        for (int i = 0; i < types.length; i++) {
            with[i] = types[i] == boolean.class ? (Object) ((numbers[i] & 1) == 1) : (Object) numbers[i];
        }
        try {
            Object answer = method.invoke(on, with);
            return answer instanceof Boolean ? ((Boolean) answer ? 1 : 0) : ((Number) answer).longValue();
        } catch (InvocationTargetException thrown) {
            throw new IllegalStateException(name + " threw", thrown.getCause());
        } catch (IllegalAccessException hidden) {
            throw new IllegalStateException(hidden);
        }
    }

    /** The five numbers of each feed that brings the text, with zeros behind it. */
    static int[][] feeds(String text) {
        int[][] made = new int[(text.length() + 19) / 20][5];
        for (int i = 0; i < text.length(); i++) made[i / 20][i % 20 / 4] |= (text.charAt(i) & 255) << 24 - 8 * (i % 4);
        return made;
    }
}
