import java.lang.reflect.Method;
import java.lang.reflect.Modifier;
import java.nio.file.Files;
import java.nio.file.Path;
import java.util.List;
import java.util.regex.Matcher;
import java.util.regex.Pattern;

/** README.md is held to its word: its example is played, and it names every call of the face. */
public final class UnsaidRoomReadme {
    static int wrong = 0;

    static final Pattern TELLS = Pattern.compile("tell\\(x, \"([^\"]*)\"\\);");
    static final Pattern CALLS = Pattern.compile("x\\.(\\w+)\\(([^)]*)\\); *// ([\\w-]+):.*");

    static void must(boolean so, String what) {
        if (!so) {
            wrong++;
            System.out.println("not so: " + what);
        }
    }

    static void tell(UnsaidRoom x, String text) {
        for (int i = 0; i < text.length(); i += 24) {
            x.feed(eight(text, i), eight(text, i + 8), eight(text, i + 16));
        }
    }

    static long eight(String text, int from) {
        long all = 0;
        for (int i = from; i < from + 8; i++) {
            all = all << 8 | (i < text.length() ? text.charAt(i) : 0);
        }
        return all;
    }

    static Method named(String name) {
        for (Method m : UnsaidRoom.class.getDeclaredMethods()) {
            if (m.getName().equals(name) && Modifier.isPublic(m.getModifiers())) {
                return m;
            }
        }
        throw new AssertionError("README.md calls " + name + ", which is none of the face");
    }

    static Object called(UnsaidRoom x, String name, String written) throws ReflectiveOperationException {
        Method m = named(name);
        String[] texts = written.isEmpty() ? new String[0] : written.split(", ");
        Object[] values = new Object[texts.length];
        for (int i = 0; i < texts.length; i++) {
            boolean isFlag = m.getParameterTypes()[i] == boolean.class;
            values[i] = isFlag ? (Object) Boolean.valueOf(texts[i]) : (Object) Integer.valueOf(texts[i]);
        }
        return m.invoke(x, values);
    }

    static void example(List<String> lines) throws ReflectiveOperationException {
        UnsaidRoom x = new UnsaidRoom();
        int told = 0;
        int answers = 0;
        for (String line : lines) {
            Matcher tells = TELLS.matcher(line);
            Matcher calls = CALLS.matcher(line);
            if (tells.matches()) {
                tell(x, tells.group(1));
                told++;
            } else if (calls.matches()) {
                String got = String.valueOf(called(x, calls.group(1), calls.group(2)));
                must(got.equals(calls.group(3)), line + " (it answered " + got + ")");
                answers++;
            } else {
                must(!line.startsWith("x.") && !line.startsWith("tell("), "this line can be played: " + line);
            }
        }
        must(told >= 5 && answers >= 15, "the example is there: " + told + " texts, " + answers + " answers");
    }

    static void names(String page) {
        for (Method m : UnsaidRoom.class.getDeclaredMethods()) {
            if (Modifier.isPublic(m.getModifiers())) {
                must(page.contains("`" + m.getName() + "`"), "the page names " + m.getName());
            }
        }
        must(page.contains(".ci/run"), "the page says how to run the tests");
    }

    public static void main(String[] args) throws Exception {
        Path page = Path.of("README.md");
        example(Files.readAllLines(page));
        names(Files.readString(page));
        System.out.println(wrong == 0 ? "README.md keeps its word" : wrong + " are not so");
        if (wrong != 0) {
            System.exit(1);
        }
    }
}
