import java.lang.reflect.InvocationTargetException;
import java.lang.reflect.Method;

/** A call written as text ("one 0 5 3 40 0"), so that it can be made on one object and on another. */
final class Call {
    private final String text;
    private final Method method;
    private final Object[] arguments;

    Call(String text) {
        String[] words = text.strip().split(" +");
        this.text = text.strip();
        this.method = find(words[0]);
        this.arguments = new Object[method.getParameterCount()];
        if (words.length - 1 != arguments.length) {
            throw new IllegalArgumentException("not so many arguments: " + text);
        }
        for (int i = 0; i < arguments.length; i++) {
            arguments[i] = method.getParameterTypes()[i] == boolean.class
                    ? (Object) words[i + 1].equals("true") : (Object) (int) number(words[i + 1]);
        }
    }

    /** The answer; a call that throws is told as an IllegalStateException. */
    long on(OathPermit x) {
        try {
            return ((Number) method.invoke(x, arguments)).longValue();
        } catch (InvocationTargetException | IllegalAccessException e) {
            throw new IllegalStateException(text + " throws " + e.getCause());
        }
    }

    @Override
    public String toString() {
        return text;
    }

    private static Method find(String name) {
        for (Method method : OathPermit.class.getDeclaredMethods()) {
            if (method.getName().equals(name)) {
                return method;
            }
        }
        throw new IllegalArgumentException("no call " + name);
    }

    /** A number of the scripts, which may be one of the document's names. */
    static long number(String word) {
        switch (word) {
            case "UNKNOWN": return -1;
            case "OUTSIDE": return -2;
            case "STATE": return -3;
            case "FULL": return -4;
            case "NO": return -5;
            case "NONE": return -6;
            case "GONE+OUTSIDE": return -1000000000000000002L;
            case "MAX": return Integer.MAX_VALUE;
            case "MIN": return Integer.MIN_VALUE;
            default: return Long.parseLong(word);
        }
    }
}
