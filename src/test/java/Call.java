import java.lang.reflect.Method;

/** A call by its name, so that one test may go through many calls. */
final class Call {
    private Call() {
    }

    static int make(PuddleClaims x, String name, long... arguments) {
        for (Method method : PuddleClaims.class.getDeclaredMethods()) {
            if (method.getName().equals(name) && method.getParameterCount() == arguments.length) {
                return make(x, method, arguments);
            }
        }
        throw new IllegalArgumentException("there is no " + told(name, arguments));
    }

    private static int make(PuddleClaims x, Method method, long[] arguments) {
        Class<?>[] types = method.getParameterTypes();
        Object[] boxed = new Object[arguments.length];
        for (int k = 0; k < boxed.length; k++) {
            if (types[k] == long.class) {
                boxed[k] = arguments[k];
            } else {
                boxed[k] = Math.toIntExact(arguments[k]);
            }
        }
        try {
            return (Integer) method.invoke(x, boxed);
        } catch (ReflectiveOperationException e) {
            throw new IllegalStateException(told(method.getName(), arguments), e);
        }
    }

    static String told(String name, long... arguments) {
        StringBuilder call = new StringBuilder(name).append('(');
        for (int k = 0; k < arguments.length; k++) {
            call.append(k == 0 ? "" : ", ").append(arguments[k]);
        }
        return call.append(')').toString();
    }
}
