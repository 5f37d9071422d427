import java.lang.reflect.Constructor;
import java.lang.reflect.Field;
import java.lang.reflect.Member;
import java.lang.reflect.Method;
import java.lang.reflect.Modifier;
import java.util.ArrayList;
import java.util.Arrays;
import java.util.Collections;
import java.util.List;
import java.util.NoSuchElementException;

/** The face of the class is the document's and nothing besides. */
public final class FaceTest {
    private static final String[] FACE = {
        "boolean height(int, int)", "boolean land(int, int)", "boolean layer(int, int, int, int, int)",
        "boolean move(int, int)", "boolean moved(int, boolean)", "boolean reading(int, int, int)",
        "boolean repeal(int)", "boolean set(int, int, int)", "boolean start(int)", "boolean wind(int)",
        "int arrives(int)", "int burst(int)", "int check(int, int, int, int, int)", "int climb(int, int)",
        "int count(int)", "int fault()", "int feed(int, int, int, int, int)", "int full(int, boolean)",
        "int known(int, int, int)", "int led(int, int)", "int lost(int)", "int may(int)", "int of(int, int, int)",
        "int pass(int)", "int pipe(int, int, int, int)", "int pipeOf(int, int)", "int plan(int, int)",
        "int planned(int)", "int right(int, int, int)", "int rule(int)", "int runOut(int, int)", "int says(int, int)",
        "int sounding(int, int, int)", "int trouble()", "int until(int, int)", "int village(int, int)",
        "int where()"};

    public static void main(String[] args) throws Exception {
        Class<?> face = LakeBreath.class;
        Due.be("NONE", LakeBreath.NONE, -1);
        Due.be("public and final", face.getModifiers(), Modifier.PUBLIC | Modifier.FINAL);
        methods(face);
        Due.be("constructors", face.getDeclaredConstructors().length, 1);
        for (Constructor<?> c : face.getDeclaredConstructors()) {
            Due.be("public constructor", Modifier.isPublic(c.getModifiers()) && c.getParameterCount() == 0, true);
        }
        fields(face);
        for (Class<?> inside : face.getDeclaredClasses()) {
            Due.be(inside + " is static", Modifier.isStatic(inside.getModifiers()), true);
            Due.be(inside + " is not public", Modifier.isPublic(inside.getModifiers()), false);
            fields(inside);
        }
        Class<?>[] thrown = face.getMethod("planned", int.class).getExceptionTypes();
        Due.be("planned throws", thrown.length == 1 && thrown[0] == NoSuchElementException.class, true);
        Due.end();
    }

    private static void methods(Class<?> face) {
        List<String> found = new ArrayList<>();
        List<String> names = new ArrayList<>();
        for (Method m : face.getDeclaredMethods()) {
            if (Modifier.isPublic(m.getModifiers())) {
                String numbers = Arrays.toString(m.getParameterTypes());
                found.add(m.getReturnType() + " " + m.getName() + "(" + numbers.substring(1, numbers.length() - 1) + ")");
                names.add(m.getName());
            }
        }
        Collections.sort(found);
        for (String one : FACE) {
            Due.be(one + " is there", found.contains(one), true);
        }
        Due.be("public methods", found.size(), FACE.length);
        for (Method m : face.getDeclaredMethods()) {
            hidden(m, names);
        }
        for (Class<?> inside : face.getDeclaredClasses()) {
            for (Method m : inside.getDeclaredMethods()) {
                Due.be(m + " bears no name of the face", names.contains(m.getName()), false);
            }
        }
    }

    private static void hidden(Method m, List<String> names) {
        if (!Modifier.isPublic(m.getModifiers())) {
            Due.be(m + " is private", isPrivate(m), true);
            Due.be(m + " bears no name of the face", names.contains(m.getName()), false);
        }
    }

    private static boolean isPrivate(Member m) {
        return Modifier.isPrivate(m.getModifiers());
    }

    private static void fields(Class<?> where) {
        for (Field f : where.getDeclaredFields()) {
            if (where == LakeBreath.class && !f.getName().equals("NONE")) {
                Due.be(f + " is private", isPrivate(f), true);
            }
            if (Modifier.isStatic(f.getModifiers())) {
                Due.be(f + " is final", Modifier.isFinal(f.getModifiers()), true);
            }
        }
    }
}
