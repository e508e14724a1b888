import com.sun.management.ThreadMXBean;
import java.lang.management.ManagementFactory;
import java.lang.reflect.Constructor;
import java.lang.reflect.Field;
import java.lang.reflect.InvocationTargetException;
import java.lang.reflect.Method;
import java.lang.reflect.Modifier;
import java.util.ArrayList;
import java.util.Arrays;
import java.util.HashMap;
import java.util.List;
import java.util.Map;
import java.util.Random;
import java.util.TreeSet;

/** The public face is the document's; no arguments make a call throw; calls make next to no objects. */
public final class FaceTest {
    private static final String[] METHODS = {
        "int one(int,int,int,int,int)", "int leave(int)", "int permit(int,int)", "int set(int,int)",
        "int say(int)", "int wipe()", "int fault()", "int judge(int)", "int behind(int,int)",
        "int slipped(int)", "int done()", "int hears(int)", "int spend(int,int,int,int)",
        "int deal(int,int,int)", "int seats(int,int)", "int cover(int,int,int,int,int)",
        "long risk(int,int,int,int,int,int)", "int seen(int,boolean)", "int forget()", "int who()",
        "int ask(int)", "int quarrel(int,int,int)", "int year(int,int,int)", "int image(int)",
        "int restore(int)", "int told(int)"
    };
    private static final int[] WILD = {
        Integer.MIN_VALUE, Integer.MIN_VALUE + 1, -1000000000, -65536, -10, -7, -6, -2, -1, 0, 1, 2, 3, 5, 6, 7,
        8, 9, 10, 15, 16, 20, 21, 31, 32, 33, 40, 41, 46, 60, 65, 66, 99, 100, 999, 1000, 9999, 10000, 65537,
        999999, 1000000, 1 << 30, Integer.MAX_VALUE - 1, Integer.MAX_VALUE
    };

    public static void main(String[] args) throws Exception {
        Due due = new Due();
        face(due);
        constants(due);
        wildArguments(due);
        fewObjects(due);
        due.finish();
    }

    private static String names(Class<?>[] types) {
        StringBuilder text = new StringBuilder();
        for (Class<?> type : types) {
            text.append(text.length() == 0 ? "" : ",").append(type.getName());
        }
        return text.toString();
    }

    private static void face(Due due) {
        Class<?> c = OathPermit.class;
        due.holds("the class is public and final", Modifier.isPublic(c.getModifiers()) && Modifier.isFinal(c.getModifiers()));
        due.holds("it extends Object and implements nothing", c.getSuperclass() == Object.class && c.getInterfaces().length == 0);
        Constructor<?>[] constructors = c.getDeclaredConstructors();
        due.holds("one public constructor without arguments", constructors.length == 1
                && Modifier.isPublic(constructors[0].getModifiers()) && constructors[0].getParameterCount() == 0);
        TreeSet<String> found = new TreeSet<>();
        TreeSet<String> publicNames = new TreeSet<>();
        for (Method method : c.getDeclaredMethods()) {
            if (!Modifier.isPrivate(method.getModifiers())) {
                found.add(method.getReturnType().getName() + " " + method.getName() + "(" + names(method.getParameterTypes()) + ")");
                publicNames.add(method.getName());
                due.holds(method.getName() + " is public, and an object's own", Modifier.isPublic(method.getModifiers()) && !Modifier.isStatic(method.getModifiers()));
            }
        }
        due.holds("the methods are the document's: " + found, found.equals(new TreeSet<>(Arrays.asList(METHODS))));
        for (Method method : c.getDeclaredMethods()) {
            due.holds("no private method bears a public one's name: " + method.getName(),
                    !Modifier.isPrivate(method.getModifiers()) || !publicNames.contains(method.getName()));
        }
        for (Class<?> inside : c.getDeclaredClasses()) {
            int mods = inside.getModifiers();
            due.holds(inside + " is static and not public", Modifier.isStatic(mods) && !Modifier.isPublic(mods) && !Modifier.isProtected(mods));
        }
    }

    private static void constants(Due due) throws IllegalAccessException {
        Map<String, Long> want = new HashMap<>();
        String[] names = {"UNKNOWN", "OUTSIDE", "STATE", "FULL", "NO", "NONE"};
        for (int i = 0; i < names.length; i++) {
            want.put(names[i], -1L - i);
        }
        want.put("GONE", -1000000000000000000L);
        int open = 0;
        for (Field field : OathPermit.class.getDeclaredFields()) {
            if (!Modifier.isPrivate(field.getModifiers())) {
                open++;
                int mods = field.getModifiers();
                due.holds(field.getName() + " is a public constant", Modifier.isPublic(mods) && Modifier.isStatic(mods) && Modifier.isFinal(mods));
                due.holds(field.getName() + " is of its type", field.getType() == (field.getName().equals("GONE") ? long.class : int.class));
                due.holds(field.getName() + " is the document's", want.containsKey(field.getName())
                        && field.getType().isPrimitive() && ((Number) field.get(null)).longValue() == want.get(field.getName()));
            }
        }
        due.is("constants", open, want.size());
    }

    private static List<Method> calls() {
        List<Method> list = new ArrayList<>();
        for (Method method : OathPermit.class.getDeclaredMethods()) {
            if (Modifier.isPublic(method.getModifiers())) {
                list.add(method);
            }
        }
        list.sort((a, b) -> a.getName().compareTo(b.getName()));
        return list;
    }

    private static void wildArguments(Due due) throws IllegalAccessException {
        List<Method> calls = calls();
        for (int run = 0; run < 1500; run++) {
            Random draws = new Random(run);
            OathPermit x = new OathPermit();
            for (int call = 0; call < 512; call++) {
                Method method = calls.get(draws.nextInt(calls.size()));
                Object[] arguments = new Object[method.getParameterCount()];
                boolean small = draws.nextBoolean();
                for (int i = 0; i < arguments.length; i++) {
                    if (method.getParameterTypes()[i] == boolean.class) {
                        arguments[i] = draws.nextBoolean();
                    } else if (method.getName().equals("say")) {
                        arguments[i] = (int) "ABCDEFhrtk!>@.123456789z".charAt(draws.nextInt(24));
                    } else {
                        arguments[i] = small ? draws.nextInt(8) : WILD[draws.nextInt(WILD.length)];
                    }
                }
                try {
                    method.invoke(x, arguments);
                } catch (InvocationTargetException e) {
                    due.holds(method.getName() + Arrays.toString(arguments) + " in run " + run + " throws " + e.getCause(), false);
                }
            }
        }
        due.holds("wild arguments were tried", true);
    }

    /** All calls of a run live in one room: what the dearest calls make is weighed, 512 times each. */
    private static void fewObjects(Due due) {
        ThreadMXBean weigher = (ThreadMXBean) ManagementFactory.getThreadMXBean();
        if (!weigher.isThreadAllocatedMemorySupported()) {
            return;
        }
        long thread = Thread.currentThread().getId();
        long before = weigher.getThreadAllocatedBytes(thread);
        OathPermit x = new OathPermit();
        for (int one = 0; one < 6; one++) {
            x.one(one, one, 20, 100, one);
        }
        long made = weigher.getThreadAllocatedBytes(thread);
        due.holds("a new object takes less than 100000 bytes: " + (made - before), made - before < 100000);
        for (int i = 0; i < 60; i++) {
            x.say('.');
        }
        long sum = 0;
        for (int i = 0; i < 512; i++) {
            sum += x.spend(5, 20, 123456, 2) + x.deal(20, 123456, 5) + x.seats(9, 1) + x.cover(3, 3, 123456, 654321, 1)
                    + x.risk(9, 8, 9, 5, 1, 0) + x.year(i, 99, 0) + x.judge(2) + x.behind(0, 0) + x.slipped(3) + x.seen(i % 6, true)
                    + x.who() + x.ask(0) + x.quarrel(99, 9, 1) + x.image(i % 2) + x.restore(i % 2) + x.fault() + x.told(10);
        }
        long all = weigher.getThreadAllocatedBytes(thread) - made;
        due.holds("512 rounds of calls (" + sum + ") make less than 1000000 bytes: " + all, all < 1000000);
    }
}
