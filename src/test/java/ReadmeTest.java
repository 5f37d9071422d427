import java.io.IOException;
import java.lang.reflect.InvocationTargetException;
import java.lang.reflect.Method;
import java.nio.file.Files;
import java.nio.file.Path;
import java.util.regex.Matcher;
import java.util.regex.Pattern;

/** Makes the calls that README.md shows and compares each answer with the one that stands behind the call there. */
public final class ReadmeTest {
    private static final String BEGINS = "LakeBreath watch = new LakeBreath();";
    private static final Pattern CALL = Pattern.compile("watch\\.(\\w+)\\((.*)\\);\\s*// (-?\\w+)(:.*)?");

    private static LakeBreath watch;
    private static int calls;
    private static int pages;

    public static void main(String[] args) throws IOException, IllegalAccessException {
        boolean inside = false;
        for (String line : Files.readAllLines(Path.of("README.md"))) {
            if (line.startsWith("```")) {
                inside = line.equals("```java");
                watch = null;
            } else if (inside) {
                show(line);
            }
        }
        Due.be("parts of README.md with calls", pages >= 4, true);
        Due.be("calls in README.md", calls >= 40, true);
        Due.end();
    }

    private static void show(String line) throws IllegalAccessException {
        if (line.equals(BEGINS)) {
            watch = new LakeBreath();
            pages++;
            return;
        }
        Matcher call = CALL.matcher(line);
        if (watch == null || !call.matches()) {
            Due.be("README.md has a line that is no call with its answer: " + line, 0, 1);
            return;
        }
        calls++;
        String due = call.group(3).equals("NONE") ? "-1" : call.group(3);
        String got = answer(call.group(1), call.group(2));
        Due.be("README.md: " + line + " (it is " + got + ")", got.equals(due), true);
    }

    private static String answer(String name, String numbers) throws IllegalAccessException {
        for (Method m : LakeBreath.class.getMethods()) {
            if (m.getName().equals(name)) {
                try {
                    return String.valueOf(m.invoke(watch, values(m.getParameterTypes(), numbers)));
                } catch (InvocationTargetException e) {
                    return e.getCause().getClass().getSimpleName();
                }
            }
        }
        return "no such call";
    }

    private static Object[] values(Class<?>[] kinds, String numbers) {
        String[] texts = numbers.isEmpty() ? new String[0] : numbers.split(", ");
        Object[] values = new Object[texts.length];
        for (int i = 0; i < texts.length; i++) {
            values[i] = kinds[i] == boolean.class ? (Object) Boolean.valueOf(texts[i]) : Integer.decode(texts[i]);
        }
        return values;
    }
}
