import java.io.IOException;
import java.io.PrintWriter;
import java.io.StringWriter;
import java.lang.reflect.Executable;
import java.lang.reflect.Field;
import java.lang.reflect.Modifier;
import java.nio.file.Files;
import java.nio.file.Path;
import java.util.ArrayList;
import java.util.Collections;
import java.util.HashMap;
import java.util.HashSet;
import java.util.List;
import java.util.Map;
import java.util.Optional;
import java.util.Set;
import java.util.regex.Matcher;
import java.util.regex.Pattern;
import java.util.spi.ToolProvider;

/** What of ../shared/LANGUAGE.md can be seen from the class's text, its members and the calls in it, by rule. */
public final class LanguageTest {
    private static final List<String> IMPORTS = List.of("java.util.Arrays", "java.util.ArrayList", "java.util.List",
            "java.util.Iterator", "java.util.NoSuchElementException");
    private static final Pattern COMMENT = Pattern.compile("/\\*.*?\\*/|//[^\\n]*", Pattern.DOTALL);
    private static final Pattern LITERAL = Pattern.compile("\"(\\\\.|[^\"\\\\])*\"|'(\\\\.|[^'\\\\])'");
    private static final Pattern METHOD = Pattern.compile("( {4}| {8})(\\w[\\w\\[\\]]* )*\\w+\\(.*\\{");
    private static final Pattern CALLER = Pattern.compile("  \\S.*?([\\w$<>]+)\\((.*)\\)( throws .*)?;");
    private static final Pattern CALLED = Pattern.compile(".*: invoke\\w+ .*// (?:Interface)?Method ([^:]+):.*");
    private static final Pattern CLASS = Pattern.compile("(?:\\w+ )*(?:class|interface|enum) ([\\w$]+).*\\{");

    public static void main(String[] args) throws IOException {
        String text = Files.readString(Path.of("src/main/java/LakeBreath.java"));
        signs(text);
        words(LITERAL.matcher(COMMENT.matcher(text).replaceAll("")).replaceAll("''"));
        lengths(text);
        members();
        depths();
        Due.end();
    }

    private static void signs(String text) {
        for (int i = 0; i < text.length(); i++) {
            char c = text.charAt(i);
            if (c != '\n' && (c < 32 || c > 126)) {
                Due.be("rule 4: a sign of its own number at " + i, c, 32);
            }
        }
    }

    private static void words(String code) {
        Matcher imported = Pattern.compile("import (.*);").matcher(code);
        while (imported.find()) {
            Due.be("rule 4: import " + imported.group(1), IMPORTS.contains(imported.group(1)), true);
        }
        none(code, "rule 2", "->|::");
        none(code, "rule 4", "\\bSystem\\.(?!arraycopy)|\\w+Exact\\b|\\bString\\.|\\bCharacter\\.|(?<!import )\\bjava\\.");
        none(code, "rule 5", "\\bstatic \\{");
        none(code, "rule 6", "\\b(finally|synchronized|assert|getMessage|hashCode)\\b"
                + "|throw (?!new (IllegalState|IllegalArgument|IndexOutOfBounds|Arithmetic|UnsupportedOperation"
                + "|NoSuchElement|Runtime)Exception\\((''|)\\);)");
        none(code, "the machine's own exceptions aren't caught", "catch \\([^)]*\\b(Throwable|Error|Exception"
                + "|RuntimeException|\\w*IndexOutOfBoundsException|NullPointerException|ArithmeticException"
                + "|ClassCastException|NegativeArraySizeException|ArrayStoreException)\\b");
        none(code, "rule 10: texts aren't joined by +", "'' \\+|\\+ ''");
        none(code, "rule 13", "\\b(Random|Thread|nanoTime|currentTimeMillis|getenv|File)\\b");
    }

    private static void none(String code, String rule, String pattern) {
        Matcher met = Pattern.compile(pattern).matcher(code);
        Due.be(rule + (met.find() ? ": " + met.group() : ""), met.reset().find(), false);
    }

    private static void lengths(String text) {
        String[] lines = text.split("\n");
        for (int i = 0; i < lines.length; i++) {
            Matcher begun = METHOD.matcher(lines[i]);
            if (begun.matches()) {
                int end = i;
                while (end < lines.length && !lines[end].equals(begun.group(1) + "}")) {
                    end++;
                }
                Due.be("rule 11: some sixty lines: " + lines[i].trim(), end - i < 60, true);
            }
        }
    }

    private static List<Class<?>> classes() {
        List<Class<?>> all = new ArrayList<>(List.of(LakeBreath.class.getDeclaredClasses()));
        all.add(LakeBreath.class);
        return all;
    }

    private static void members() {
        Due.be("rule 11: some twelve classes", classes().size() <= 12, true);
        for (Class<?> one : classes()) {
            Due.be("rule 2: no class inside " + one, one == LakeBreath.class
                    || one.getDeclaredClasses().length == 0, true);
            int fields = 0;
            for (Field f : one.getDeclaredFields()) {
                fields += Modifier.isStatic(f.getModifiers()) ? 0 : 1;
                Due.be("rule 5: " + f, !Modifier.isStatic(f.getModifiers()) || isConstant(f), true);
            }
            Due.be("rule 11: some twenty fields in " + one, fields <= 20, true);
            List<Executable> calls = new ArrayList<>(List.of(one.getDeclaredMethods()));
            calls.addAll(List.of(one.getDeclaredConstructors()));
            for (Executable call : calls) {
                Due.be("rule 11: seven parameters: " + call, call.getParameterCount() <= 7, true);
            }
        }
    }

    private static boolean isConstant(Field f) {
        return Modifier.isFinal(f.getModifiers()) && List.of("int", "long", "boolean", "char", "String", "int[]",
                "long[]", "char[]", "byte[]").contains(f.getType().getSimpleName());
    }

    private static void depths() {
        Optional<ToolProvider> javap = ToolProvider.findFirst("javap");
        if (javap.isEmpty()) {
            System.out.println("javap is not here: how deep calls go was not measured");
            return;
        }
        List<String> asked = new ArrayList<>(List.of("-p", "-c", "-cp", System.getProperty("java.class.path")));
        for (Class<?> one : classes()) {
            asked.add(one.getName());
        }
        StringWriter told = new StringWriter();
        javap.get().run(new PrintWriter(told), new PrintWriter(told), asked.toArray(new String[0]));
        Map<String, Set<String>> calls = calls(told.toString());
        Due.be("methods with calls in them", calls.size() > 50, true);
        for (String method : calls.keySet()) {
            Due.be("rule 11: eight deep: " + method, depth(method, calls, new ArrayList<>()) <= 8, true);
        }
    }

    private static Map<String, Set<String>> calls(String told) {
        Map<String, Set<String>> calls = new HashMap<>();
        String inside = "";
        String method = "";
        for (String line : told.split("\\R")) {
            Matcher begins = CLASS.matcher(line);
            Matcher caller = CALLER.matcher(line);
            Matcher called = CALLED.matcher(line);
            if (begins.matches()) {
                inside = begins.group(1);
            } else if (caller.matches()) {
                method = inside + "." + caller.group(1);
            } else if (called.matches()) {
                String name = called.group(1);
                calls.computeIfAbsent(method, key -> new HashSet<>())
                        .add(name.indexOf('.') < 0 ? inside + "." + name : name);
            }
        }
        return calls;
    }

    /** How many calls stand open at once from a method on, itself among them; a recursion is another rule's matter. */
    private static int depth(String method, Map<String, Set<String>> calls, List<String> open) {
        if (open.contains(method)) {
            return 0;
        }
        open.add(method);
        int deepest = 0;
        for (String called : calls.getOrDefault(method, Collections.emptySet())) {
            deepest = Math.max(deepest, depth(called, calls, open));
        }
        open.remove(method);
        return deepest + 1;
    }
}
