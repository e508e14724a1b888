import com.sun.management.ThreadMXBean;
import java.lang.management.ManagementFactory;
import java.lang.reflect.Constructor;
import java.lang.reflect.Field;
import java.lang.reflect.InvocationTargetException;
import java.lang.reflect.Method;
import java.lang.reflect.Modifier;
import java.nio.file.Files;
import java.nio.file.Path;
import java.util.ArrayList;
import java.util.Arrays;
import java.util.List;
import java.util.Random;
import java.util.TreeSet;

/** The public face is the document's; no arguments make a call throw; calls make next to no objects. */
public final class FaceTest {
    private static final int[] WILD = {
        Integer.MIN_VALUE, Integer.MIN_VALUE + 1, -1000000000, -65536, -10, -7, -6, -2, -1, 0, 1, 2, 3, 5, 6, 7,
        8, 9, 10, 15, 16, 20, 21, 31, 32, 33, 40, 41, 46, 60, 65, 66, 99, 100, 999, 1000, 9999, 10000, 65537,
        999999, 1000000, 1 << 30, Integer.MAX_VALUE - 1, Integer.MAX_VALUE
    };

    public static void main(String[] args) throws Exception {
        Path project = Path.of(System.getProperty("project", "."));
        Due due = new Due();
        Face face = new Face(project.resolve("../shared/DOC.md"));
        String source = Files.readString(project.resolve("src/main/java/OathPermit.java"));
        documentTellsIt(due, face);
        face(due, face);
        constants(due, face);
        asWritten(due, face, source);
        sections(due, face, source);
        wildArguments(due);
        fewObjects(due);
        due.finish();
    }

    /** Counts what was read, for a face of nothing would be like any; the document's parts tell the same. */
    private static void documentTellsIt(Due due, Face face) {
        due.is("constants of the document", face.values.size(), 7);
        due.is("constructors of the document", face.constructors.size(), 1);
        due.is("methods of the document", face.methods.size(), 26);
        due.is("sections of the document", face.sections.size(), 4);
        due.holds("Terms tell the same constants: " + face.valuesOfTerms, face.valuesOfTerms.equals(face.values));
        List<String> code = new ArrayList<>(face.constructors);
        code.addAll(face.methods);
        List<String> promised = new ArrayList<>();
        for (String head : face.promised) {
            promised.add("public " + head);
        }
        due.holds("the promises are of the face's calls: " + promised, promised.equals(code));
    }

    private static String names(Class<?>[] types) {
        StringBuilder text = new StringBuilder();
        for (Class<?> type : types) {
            text.append(text.length() == 0 ? "" : ",").append(type.getName());
        }
        return text.toString();
    }

    private static void face(Due due, Face face) {
        Class<?> c = OathPermit.class;
        due.holds("the class is public and final", Modifier.isPublic(c.getModifiers()) && Modifier.isFinal(c.getModifiers()));
        due.holds("it extends Object and implements nothing", c.getSuperclass() == Object.class && c.getInterfaces().length == 0);
        Constructor<?>[] constructors = c.getDeclaredConstructors();
        due.holds("one public constructor without arguments", constructors.length == 1
                && Modifier.isPublic(constructors[0].getModifiers()) && constructors[0].getParameterCount() == 0);
        TreeSet<String> found = new TreeSet<>();
        TreeSet<String> publicNames = new TreeSet<>();
        for (Method method : c.getDeclaredMethods()) {
            if (!Modifier.isPrivate(method.getModifiers())) {
                found.add(method.getReturnType().getName() + " " + method.getName() + "(" + names(method.getParameterTypes()) + ")");
                publicNames.add(method.getName());
                due.holds(method.getName() + " is public, and an object's own", Modifier.isPublic(method.getModifiers()) && !Modifier.isStatic(method.getModifiers()));
            }
        }
        TreeSet<String> want = new TreeSet<>();
        for (String method : face.methods) {
            want.add(Face.withoutNames(method));
        }
        due.holds("the methods are the document's: " + found, found.equals(want));
        privateNames(due, c, publicNames);
        for (Class<?> inside : c.getDeclaredClasses()) {
            privateNames(due, inside, publicNames);
            int mods = inside.getModifiers();
            due.holds(inside + " is static and not public", Modifier.isStatic(mods) && !Modifier.isPublic(mods) && !Modifier.isProtected(mods));
        }
    }

    private static void privateNames(Due due, Class<?> c, TreeSet<String> publicNames) {
        for (Method method : c.getDeclaredMethods()) {
            due.holds("no private method bears a public one's name: " + method.getName(),
                    !Modifier.isPrivate(method.getModifiers()) || !publicNames.contains(method.getName()));
        }
    }

    private static void constants(Due due, Face face) throws IllegalAccessException {
        int open = 0;
        for (Field field : OathPermit.class.getDeclaredFields()) {
            if (!Modifier.isPrivate(field.getModifiers())) {
                open++;
                int mods = field.getModifiers();
                String name = field.getName();
                due.holds(name + " is a public constant", Modifier.isPublic(mods) && Modifier.isStatic(mods) && Modifier.isFinal(mods));
                due.holds(name + " is of the document's kind: " + field.getType(), kindOf(face, name).equals(field.getType().getName()));
                due.holds(name + " is the document's: " + field.get(null), face.values.containsKey(name)
                        && field.getType().isPrimitive() && ((Number) field.get(null)).longValue() == face.values.get(name));
            }
        }
        due.is("constants", open, face.values.size());
    }

    private static String kindOf(Face face, String name) {
        for (String line : face.constants) {
            if (line.contains(" " + name + " = ")) {
                return line.split(" ")[3];
            }
        }
        return "none";
    }

    /** The arguments' names too: each line of the document's code stands in the source, a method's with its body. */
    private static void asWritten(Due due, Face face, String source) {
        due.holds("the class is named as in the document", source.contains("\npublic final class OathPermit {\n"));
        for (String line : face.constants) {
            due.holds("as in the document: " + line, source.contains("\n    " + line + ";\n"));
        }
        for (String line : face.constructors) {
            due.holds("as in the document: " + line, source.contains("\n    " + line + " {\n"));
        }
        for (String line : face.methods) {
            due.holds("as in the document: " + line, source.contains("\n    " + line + " {\n"));
        }
    }

    /** The calls stand in the document's order, each behind the words of its section. */
    private static void sections(Due due, Face face, String source) {
        List<String> found = new ArrayList<>();
        for (String line : source.split("\n")) {
            if (line.startsWith("    // ---- ")) {
                found.add(line.substring("    // ".length()));
            } else if (line.matches("    public \\w+ \\w+\\(.*")) {
                found.add(nameOf(line));
            }
        }
        List<String> want = new ArrayList<>();
        List<String> named = new ArrayList<>();
        for (String words : face.sections.keySet()) {
            want.add(words);
            want.addAll(face.sections.get(words));
            named.addAll(face.sections.get(words));
        }
        due.holds("sections and calls are in the document's order: " + found, found.equals(want));
        List<String> all = new ArrayList<>();
        for (String method : face.methods) {
            all.add(nameOf(method));
        }
        due.holds("the document's sections name all calls: " + named, named.equals(all));
    }

    private static String nameOf(String method) {
        return method.substring(0, method.indexOf('(')).replaceFirst("^.* ", "");
    }

    private static List<Method> calls() {
        List<Method> list = new ArrayList<>();
        for (Method method : OathPermit.class.getDeclaredMethods()) {
            if (Modifier.isPublic(method.getModifiers())) {
                list.add(method);
            }
        }
        list.sort((a, b) -> a.getName().compareTo(b.getName()));
        return list;
    }

    private static void wildArguments(Due due) throws IllegalAccessException {
        List<Method> calls = calls();
        for (int run = 0; run < 1500; run++) {
            Random draws = new Random(run);
            OathPermit x = new OathPermit();
            for (int call = 0; call < 512; call++) {
                Method method = calls.get(draws.nextInt(calls.size()));
                Object[] arguments = new Object[method.getParameterCount()];
                boolean small = draws.nextBoolean();
                for (int i = 0; i < arguments.length; i++) {
                    if (method.getParameterTypes()[i] == boolean.class) {
                        arguments[i] = draws.nextBoolean();
                    } else if (method.getName().equals("say")) {
                        arguments[i] = (int) "ABCDEFhrtk!>@.123456789z".charAt(draws.nextInt(24));
                    } else {
                        arguments[i] = small ? draws.nextInt(8) : WILD[draws.nextInt(WILD.length)];
                    }
                }
                try {
                    method.invoke(x, arguments);
                } catch (InvocationTargetException e) {
                    due.holds(method.getName() + Arrays.toString(arguments) + " in run " + run + " throws " + e.getCause(), false);
                }
            }
        }
        due.holds("wild arguments were tried", true);
    }

    /** All calls of a run live in one room: what the dearest calls make is weighed, 512 times each. */
    private static void fewObjects(Due due) {
        ThreadMXBean weigher = (ThreadMXBean) ManagementFactory.getThreadMXBean();
        if (!weigher.isThreadAllocatedMemorySupported()) {
            return;
        }
        long thread = Thread.currentThread().getId();
        long before = weigher.getThreadAllocatedBytes(thread);
        OathPermit x = new OathPermit();
        for (int one = 0; one < 6; one++) {
            x.one(one, one, 20, 100, one);
        }
        long made = weigher.getThreadAllocatedBytes(thread);
        due.holds("a new object takes less than 100000 bytes: " + (made - before), made - before < 100000);
        for (int i = 0; i < 60; i++) {
            x.say('.');
        }
        long sum = 0;
        for (int i = 0; i < 512; i++) {
            sum += x.spend(5, 20, 123456, 2) + x.deal(20, 123456, 5) + x.seats(9, 1) + x.cover(3, 3, 123456, 654321, 1)
                    + x.risk(9, 8, 9, 5, 1, 0) + x.year(i, 99, 0) + x.judge(2) + x.behind(0, 0) + x.slipped(3) + x.seen(i % 6, true)
                    + x.who() + x.ask(0) + x.quarrel(99, 9, 1) + x.image(i % 2) + x.restore(i % 2) + x.fault() + x.told(10);
        }
        long all = weigher.getThreadAllocatedBytes(thread) - made;
        due.holds("512 rounds of calls (" + sum + ") make less than 1000000 bytes: " + all, all < 1000000);
    }
}
