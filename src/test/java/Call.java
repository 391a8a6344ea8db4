import java.lang.reflect.InvocationTargetException;
import java.lang.reflect.Method;
import java.util.HashMap;
import java.util.Map;
import java.util.Set;

/** One call of the face, read from a text such as "bring(0, -11)"; its answer as a number (true is 1, false 0). */
final class Call {
    /** Calls that change nothing, whatever they answer. */
    private static final Set<String> ASKS = Set.of("status", "top", "bottom", "read", "fault", "many", "turnsLeft",
            "water", "reach", "mill", "winder", "turnsIn", "storedIn", "groundIn", "seaIn", "dryIn", "floodIn",
            "stillIn", "lawIn", "enough", "bestGate", "bestGround", "hire", "hireAt", "wound", "sure", "cheapest",
            "game", "moveOf", "lived");
    /** Calls that change the FRACTION alone. */
    private static final Set<String> TELLS = Set.of("share", "price", "wet", "mean");
    private static final Set<String> WITHOUT_STATUS = Set.of("status", "fault", "feed", "top", "bottom");
    private static final Map<String, Method> METHODS = new HashMap<>();

    static {
        for (Method method : ClockRiver.class.getMethods()) {
            if (method.getDeclaringClass() == ClockRiver.class) {
                METHODS.put(method.getName(), method);
            }
        }
    }

    private final Method method;
    private final Object[] given;

    private Call(Method method, Object[] given) {
        this.method = method;
        this.given = given;
    }

    static Call of(String text) {
        int open = text.indexOf('(');
        if (open < 0 || !text.endsWith(")")) {
            throw new IllegalArgumentException("no call: " + text);
        }
        Method method = METHODS.get(text.substring(0, open));
        String inside = text.substring(open + 1, text.length() - 1).trim();
        String[] parts = inside.isEmpty() ? new String[0] : inside.split(",");
        if (method == null || method.getParameterCount() != parts.length) {
            throw new IllegalArgumentException("no such call: " + text);
        }
        Object[] given = new Object[parts.length];
        for (int i = 0; i < parts.length; i++) {
            given[i] = argument(parts[i].trim(), method.getParameterTypes()[i]);
        }
        return new Call(method, given);
    }

    private static Object argument(String text, Class<?> type) {
        if (type == boolean.class) {
            return Boolean.valueOf(text);
        }
        boolean isLong = type == long.class;
        long value;
        switch (text) {
            case "MIN":
                value = isLong ? Long.MIN_VALUE : Integer.MIN_VALUE;
                break;
            case "MAX":
                value = isLong ? Long.MAX_VALUE : Integer.MAX_VALUE;
                break;
            default:
                value = Long.decode(text);
        }
        // an if, as ?: would make a Long of either
        if (isLong) {
            return value;
        }
        return (int) value;
    }

    boolean hasStatus() {
        return !WITHOUT_STATUS.contains(method.getName());
    }

    boolean asks() {
        return ASKS.contains(method.getName());
    }

    boolean tellsFraction() {
        return TELLS.contains(method.getName());
    }

    /** What the call answers where it is refused: NONE, or false. */
    long no() {
        return method.getReturnType() == boolean.class ? 0 : -1;
    }

    long on(ClockRiver x) {
        try {
            Object answer = method.invoke(x, given);
            return answer instanceof Boolean b ? (b ? 1 : 0) : ((Number) answer).longValue();
        } catch (InvocationTargetException e) {
            throw new IllegalStateException(method.getName() + " threw " + e.getCause(), e.getCause());
        } catch (IllegalAccessException e) {
            throw new IllegalStateException(e);
        }
    }
}
