import java.io.IOException;
import java.lang.reflect.InvocationTargetException;
import java.lang.reflect.Method;
import java.lang.reflect.Modifier;
import java.nio.file.Files;
import java.nio.file.Path;
import java.util.List;
import java.util.regex.Matcher;
import java.util.regex.Pattern;

/** README.md: its example answers what it says there, and its table names every call. */
public final class ReadmeTest {
    private static final Pattern CALL = Pattern.compile("x\\.(\\w+)\\(([^)]*)\\); +// (-?\\d+|\\w+Exception)\\b.*");
    private static final Pattern MAKER =
        Pattern.compile("GlulxSaves x = new GlulxSaves\\((-?\\d+), (-?\\d+), (-?\\d+)\\);.*");

    public static void main(String[] args) throws IOException, IllegalAccessException {
        DueSupport t = new DueSupport();
        List<String> lines = Files.readAllLines(Path.of("README.md"));
        example(t, lines);
        for (Method m : GlulxSaves.class.getDeclaredMethods()) {
            if (Modifier.isPublic(m.getModifiers())) {
                long named = lines.stream().filter(line -> line.startsWith("| `" + m.getName() + "(")).count();
                t.due("rows for " + m.getName(), named, 1);
            }
        }
        t.finish("ReadmeTest");
    }

    private static void example(DueSupport t, List<String> lines) throws IllegalAccessException {
        int from = lines.indexOf("```java") + 1;
        Matcher maker = MAKER.matcher(lines.get(from));
        t.due("the example makes an object", maker.matches() ? 1 : 0, 1);
        GlulxSaves x = new GlulxSaves(number(maker, 1), number(maker, 2), number(maker, 3));
        for (int k = from + 1; !lines.get(k).equals("```"); k++) {
            Matcher call = CALL.matcher(lines.get(k));
            boolean told = call.matches();
            t.due("a call with its answer: " + lines.get(k), told ? 1 : 0, 1);
            if (told) {
                boolean same = answer(x, call.group(1), call.group(2)).equals(call.group(3));
                t.due("the answer told: " + lines.get(k), same ? 1 : 0, 1);
            }
        }
    }

    private static int number(Matcher from, int group) {
        return Integer.parseInt(from.group(group));
    }

    private static String answer(GlulxSaves x, String name, String told) throws IllegalAccessException {
        String[] texts = told.isEmpty() ? new String[0] : told.split(", ");
        Method m = method(name);
        Object[] values = new Object[texts.length];
        for (int k = 0; k < texts.length; k++) {
            boolean isLong = m.getParameterTypes()[k] == long.class;
            values[k] = isLong ? (Object) Long.valueOf(texts[k]) : (Object) Integer.valueOf(texts[k]);
        }
        try {
            return String.valueOf(m.invoke(x, values));
        } catch (InvocationTargetException e) {
            return e.getCause().getClass().getSimpleName();
        }
    }

    private static Method method(String name) {
        for (Method m : GlulxSaves.class.getDeclaredMethods()) {
            if (m.getName().equals(name) && Modifier.isPublic(m.getModifiers())) {
                return m;
            }
        }
        throw new IllegalArgumentException("README.md calls " + name);
    }
}
