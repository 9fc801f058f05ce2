import java.io.IOException;
import java.lang.reflect.Array;
import java.lang.reflect.Constructor;
import java.lang.reflect.Field;
import java.lang.reflect.Method;
import java.lang.reflect.Modifier;
import java.nio.file.Files;
import java.nio.file.Path;
import java.util.ArrayDeque;
import java.util.Arrays;
import java.util.Collections;
import java.util.Deque;
import java.util.IdentityHashMap;
import java.util.Set;
import java.util.TreeSet;

/** The public face as the document prints it, what LANGUAGE.md asks that can be looked up, and how much an object holds. */
public final class UnsaidRoomFace {
    static int wrong = 0;

    static final String[] FACE = {
        "int feed(long, long, long)", "int marches()", "int evening()", "int room(int, int)", "int person(int, int)",
        "boolean walk(int, int)", "int show(int, int)", "boolean speak(int)", "int burn(int)", "int minute()",
        "boolean undo()", "int judged(int)", "int host(int)", "int frees(int)", "int later(int, int)", "int out(int)",
        "int calm()", "int may(int)", "int goes(int)", "int stay(int, int)", "int reach(int)", "int far(int, int)",
        "int halls()", "int hinges()", "int lines(int)", "int fire(int, int)", "int queue(int, int)", "int longest()",
        "int as()", "int been(int)", "boolean alike()", "int widows()", "boolean see(int, int, boolean)", "int which()",
        "int ask()", "int chance(int, int, int, int)",
        "int rests(int, int, int, int) throws java.util.NoSuchElementException", "int evenings(int, int, int)",
        "boolean mark(int, boolean)", "int count(int)"};

    static void must(boolean so, String what) {
        if (!so) {
            wrong++;
            System.out.println("not so: " + what);
        }
    }

    static String written(Method m) {
        StringBuilder t = new StringBuilder(m.getReturnType() + " " + m.getName() + "(");
        for (Class<?> p : m.getParameterTypes()) {
            t.append(t.charAt(t.length() - 1) == '(' ? "" : ", ").append(p);
        }
        t.append(")");
        for (Class<?> e : m.getExceptionTypes()) {
            t.append(" throws ").append(e.getName());
        }
        return t.toString();
    }

    static void face() {
        Class<?> c = UnsaidRoom.class;
        must(Modifier.isPublic(c.getModifiers()) && Modifier.isFinal(c.getModifiers()), "the class is public and final");
        Set<String> due = new TreeSet<>(Arrays.asList(FACE));
        Set<String> found = new TreeSet<>();
        Set<String> names = new TreeSet<>();
        for (Method m : c.getDeclaredMethods()) {
            if (!Modifier.isPrivate(m.getModifiers())) {
                must(Modifier.isPublic(m.getModifiers()) && !Modifier.isStatic(m.getModifiers()), m + " is public");
                found.add(written(m));
                names.add(m.getName());
            }
        }
        must(found.equals(due), "the methods are " + due + " but are " + found);
        for (Class<?> inner : classes()) {
            for (Method m : inner.getDeclaredMethods()) {
                must(inner == c && !Modifier.isPrivate(m.getModifiers()) || !names.contains(m.getName()),
                    m + " bears no public name");
            }
        }
        Constructor<?>[] made = c.getDeclaredConstructors();
        must(made.length == 1 && Modifier.isPublic(made[0].getModifiers()) && made[0].getParameterCount() == 0,
            "one public constructor");
        for (Field f : c.getDeclaredFields()) {
            must(Modifier.isPrivate(f.getModifiers()) || f.getName().equals("NONE"), f + " is private");
            must(!Modifier.isStatic(f.getModifiers()) || Modifier.isFinal(f.getModifiers()), f + " is final if static");
        }
    }

    static Class<?>[] classes() {
        Class<?>[] inner = UnsaidRoom.class.getDeclaredClasses();
        Class<?>[] all = Arrays.copyOf(inner, inner.length + 1);
        all[inner.length] = UnsaidRoom.class;
        return all;
    }

    static void sizes() {
        must(classes().length <= 12, "some twelve classes");
        for (Class<?> c : classes()) {
            int fields = 0;
            for (Field f : c.getDeclaredFields()) {
                fields += Modifier.isStatic(f.getModifiers()) ? 0 : 1;
            }
            must(fields <= 20, c + " has some twenty fields");
            must(c == UnsaidRoom.class || Modifier.isPrivate(c.getModifiers()) && Modifier.isStatic(c.getModifiers()),
                c + " is private and static");
            for (Method m : c.getDeclaredMethods()) {
                must(m.getParameterCount() <= 7, m + " takes seven at most");
            }
        }
    }

    static void text() throws IOException {
        String code = Files.readString(Path.of("src/main/java/UnsaidRoom.java")).replaceAll("(?s)/\\*.*?\\*/|//[^\n]*", "");
        String[] out = {"catch", "finally", "synchronized", "assert", "->", "::", "Exact(", "package ", "protected",
            "System.out", "record ", "static {", "String.format", "instanceof", "volatile", "transient"};
        for (String word : out) {
            must(!code.contains(word), "the class does without " + word);
        }
        must(code.chars().allMatch(s -> s == 10 || s >= 32 && s < 127), "plain signs");
        for (String line : code.split("\n")) {
            if (line.startsWith("import")) {
                must(line.equals("import java.util.Arrays;") || line.equals("import java.util.NoSuchElementException;"), line);
            }
        }
    }

    /** Objects and elements that one UnsaidRoom keeps, so that many of them have room in one run. */
    static void room() throws IllegalAccessException {
        Set<Object> met = Collections.newSetFromMap(new IdentityHashMap<>());
        Deque<Object> todo = new ArrayDeque<>();
        todo.add(new UnsaidRoom());
        long elements = 0;
        while (!todo.isEmpty()) {
            Object o = todo.pop();
            if (!met.add(o)) {
                continue;
            }
            if (o.getClass().isArray()) {
                elements += Array.getLength(o);
                for (int i = 0; i < Array.getLength(o) && !o.getClass().getComponentType().isPrimitive(); i++) {
                    todo.add(Array.get(o, i));
                }
                continue;
            }
            for (Field f : o.getClass().getDeclaredFields()) {
                if (!Modifier.isStatic(f.getModifiers())) {
                    elements++;
                    f.setAccessible(true);
                    if (!f.getType().isPrimitive() && f.get(o) != null) {
                        todo.add(f.get(o));
                    }
                }
            }
        }
        System.out.println("an object keeps " + met.size() + " objects and arrays, " + elements + " fields and elements");
        must(met.size() <= 250 && elements <= 6000, "an object is small");
    }

    public static void main(String[] args) throws Exception {
        face();
        sizes();
        text();
        room();
        System.out.println(wrong == 0 ? "the face is as due" : wrong + " are not so");
        if (wrong != 0) {
            System.exit(1);
        }
    }
}
