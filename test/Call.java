import java.lang.reflect.InvocationTargetException;
import java.lang.reflect.Method;
import java.lang.reflect.Modifier;
import java.util.ArrayList;
import java.util.HashMap;
import java.util.List;
import java.util.Map;

/** A call of the face, which can be made on an auction or on a model of it. */
record Call(String name, Object... arguments) {
    private static final List<String> TELLINGS = List.of("valid", "sale", "ranked", "fate", "needed", "lot", "bidOf",
            "bidder", "seller", "account", "count");
    private static final Map<Class<?>, Map<String, Method>> METHODS = new HashMap<>();

    long on(Object target) {
        Method method = METHODS.computeIfAbsent(target.getClass(), Call::methodsOf).get(name);
        if (method == null) {
            throw new IllegalStateException("no method " + name);
        }
        try {
            return ((Number) method.invoke(target, arguments)).longValue();
        } catch (InvocationTargetException thrown) {
            throw new IllegalStateException(this + " throws", thrown.getCause());
        } catch (IllegalAccessException hidden) {
            throw new IllegalStateException(hidden);
        }
    }

    private static Map<String, Method> methodsOf(Class<?> type) {
        Map<String, Method> methods = new HashMap<>();
        for (Method method : type.getDeclaredMethods()) {
            if (Modifier.isPublic(method.getModifiers())) {
                methods.put(method.getName(), method);
            }
        }
        return methods;
    }

    boolean onlyTells() {
        return TELLINGS.contains(name);
    }

    @Override
    public String toString() {
        List<String> texts = new ArrayList<>();
        for (Object argument : arguments) {
            texts.add(argument instanceof Character c ? "(char) " + (int) c : argument.toString());
        }
        return name + "(" + String.join(", ", texts) + ")";
    }
}
