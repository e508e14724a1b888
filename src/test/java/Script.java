import java.lang.reflect.InvocationTargetException;
import java.lang.reflect.Method;
import java.util.ArrayList;
import java.util.List;

/**
 * Runs of calls written as text, a call a line: a call's name, its arguments and, behind "=", the
 * answer that is due ("one 0 5 3 40 0 = 1"). "new" takes a new object, "pad TEXT" wipes the pad and
 * says these signs, "keep" remembers all that the object tells of itself and "same" asks it again.
 */
final class Script {
    private final Due due;
    private OathPermit x = new OathPermit();
    private List<Integer> kept = new ArrayList<>();

    Script(Due due) {
        this.due = due;
    }

    void run(String title, String text) {
        for (String line : text.split("\n")) {
            String bare = line.strip();
            if (!bare.isEmpty() && !bare.startsWith("#")) {
                obey(title, bare);
            }
        }
    }

    private void obey(String title, String line) {
        if (line.equals("new")) {
            x = new OathPermit();
        } else if (line.startsWith("pad ")) {
            pad(title, line.substring(4));
        } else if (line.equals("keep")) {
            kept = all();
        } else if (line.equals("same")) {
            due.holds(title + ": all is as it was kept", kept.equals(all()));
        } else {
            call(title, line);
        }
    }

    private void pad(String title, String text) {
        x.wipe();
        for (int i = 0; i < text.length(); i++) {
            due.is(title + ": pad " + text + ", sign " + i, x.say(text.charAt(i)), i + 1);
        }
    }

    private List<Integer> all() {
        List<Integer> list = new ArrayList<>();
        for (int what = 0; what < 66; what++) {
            list.add(x.told(what));
        }
        list.add(x.fault());
        list.add(x.who());
        for (int what = 0; what < 3; what++) {
            list.add(x.judge(what));
        }
        return list;
    }

    private void call(String title, String line) {
        String[] sides = line.split("=");
        String[] words = sides[0].strip().split(" +");
        long want = number(sides[1].strip());
        try {
            Method method = find(words[0]);
            Object[] arguments = new Object[words.length - 1];
            for (int i = 0; i < arguments.length; i++) {
                arguments[i] = method.getParameterTypes()[i] == boolean.class
                        ? (Object) words[i + 1].equals("true") : (Object) (int) number(words[i + 1]);
            }
            due.is(title + ": " + sides[0].strip(), ((Number) method.invoke(x, arguments)).longValue(), want);
        } catch (InvocationTargetException | IllegalAccessException e) {
            due.holds(title + ": " + line + " answers without " + e.getCause(), false);
        }
    }

    private static Method find(String name) {
        for (Method method : OathPermit.class.getDeclaredMethods()) {
            if (method.getName().equals(name)) {
                return method;
            }
        }
        throw new IllegalArgumentException("no call " + name);
    }

    private static long number(String word) {
        switch (word) {
            case "UNKNOWN": return -1;
            case "OUTSIDE": return -2;
            case "STATE": return -3;
            case "FULL": return -4;
            case "NO": return -5;
            case "NONE": return -6;
            case "GONE+OUTSIDE": return -1000000000000000002L;
            case "MAX": return Integer.MAX_VALUE;
            case "MIN": return Integer.MIN_VALUE;
            default: return Long.parseLong(word);
        }
    }
}
