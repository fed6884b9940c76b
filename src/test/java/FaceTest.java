import java.lang.reflect.Constructor;
import java.lang.reflect.Field;
import java.lang.reflect.Member;
import java.lang.reflect.Method;
import java.lang.reflect.Modifier;
import java.nio.file.Files;
import java.nio.file.Path;
import java.util.Arrays;
import java.util.List;
import java.util.Set;
import java.util.TreeSet;
import java.util.regex.Pattern;

/** The public face, whole and nothing beside it, and the plainest rules of LANGUAGE.md. */
public final class FaceTest {
    private static final String[] CALLS = {
        "int feed(int, int, int, int, int)", "int end(int)", "int out(int)",
        "int command(int, int, int, int, int)", "int memory(int)", "int poke(int)", "int start(int)",
        "int status(int)", "long time()", "int arm(int, int)", "int record(int, int, int, int)",
        "boolean spoil(int, int, int)", "int allocate(int, int, int, int, boolean)", "int scratch()",
        "int extend(int)", "int dataSet(int, int)", "int count(int)", "int open(int)", "int close(int)",
        "int put(int)", "int get(int)", "int rewrite(int)", "int putKeyed(int)", "int getKeyed(int)",
        "int member(int)", "int stow(int)", "int memberAt(int, int)", "int drop(int, int)", "int press(int)",
        "int opened(int, int)",
    };
    private static final String[] CONSTANTS = {"NONE", "RANGE", "STATE", "FULL", "LENGTH", "CHECK", "TWICE", "BUSY"};

    public static void main(String[] args) throws Exception {
        constants();
        members();
        source(Files.readString(Path.of("src/main/java/CountKeyStore.java")));
        Due.settle();
    }

    private static void constants() throws Exception {
        for (int i = 0; i < CONSTANTS.length; i++) {
            Due.is(CONSTANTS[i], CountKeyStore.class.getField(CONSTANTS[i]).getInt(null), -1 - i);
        }
    }

    private static boolean isHidden(Member m) {
        return Modifier.isPrivate(m.getModifiers()) || m.isSynthetic();
    }

    private static void members() {
        Class<?> c = CountKeyStore.class;
        Due.holds("public and final", Modifier.isPublic(c.getModifiers()) && Modifier.isFinal(c.getModifiers()));
        Set<String> calls = new TreeSet<>();
        Set<String> names = new TreeSet<>();
        for (Method m : c.getDeclaredMethods()) {
            if (!isHidden(m)) {
                Due.holds(m.getName() + " is public", m.getModifiers() == Modifier.PUBLIC);
                String types = Arrays.toString(m.getParameterTypes());
                calls.add(m.getReturnType() + " " + m.getName() + "(" + types.substring(1, types.length() - 1) + ")");
                names.add(m.getName());
            }
        }
        Due.holds("the calls are those of the document", calls.equals(new TreeSet<>(List.of(CALLS))));
        Set<String> fields = new TreeSet<>();
        for (Field f : c.getDeclaredFields()) {
            if (!isHidden(f)) {
                fields.add(f.getName());
            }
        }
        Due.holds("the constants are those of the document", fields.equals(new TreeSet<>(List.of(CONSTANTS))));
        Constructor<?>[] made = c.getDeclaredConstructors();
        Due.is("one constructor", made.length, 1);
        Due.is("without arguments", made[0].getParameterCount(), 0);
        Due.holds("at most twelve classes", c.getDeclaredClasses().length + 1 <= 12);
        for (Class<?> inside : c.getDeclaredClasses()) {
            Due.holds(inside + " is static", Modifier.isStatic(inside.getModifiers()));
            Due.holds(inside + " is not public", !Modifier.isPublic(inside.getModifiers()));
            for (Method m : inside.getDeclaredMethods()) {
                Due.holds(m + " bears no public name", !names.contains(m.getName()));
                Due.holds(m + " takes seven at most", m.getParameterCount() <= 7);
            }
            int own = 0;
            for (Field f : inside.getDeclaredFields()) {
                own += Modifier.isStatic(f.getModifiers()) ? 0 : 1;
                Due.holds(f + " is no state for all", !Modifier.isStatic(f.getModifiers())
                        || Modifier.isFinal(f.getModifiers()));
            }
            Due.holds(inside + " has twenty fields at most", own <= 20);
        }
        for (Method m : c.getDeclaredMethods()) {
            Due.holds(m + " bears no public name", !isHidden(m) || !names.contains(m.getName()));
        }
    }

    private static void source(String text) {
        String code = text.replaceAll("(?s)/\\*.*?\\*/", "").replaceAll("//[^\n]*", "");
        String[] banned = {"\\bthrow\\b", "\\btry\\b", "\\bcatch\\b", "\\bsynchronized\\b", "\\bassert\\b", "->", "::",
            "\\bpackage\\b", "\\bfinally\\b", "\\bwhile \\(true\\)", "Exact\\b", "\\bSystem\\.(?!arraycopy\\b)"};
        for (String word : banned) {
            Due.holds("without " + word, !Pattern.compile(word).matcher(code).find());
        }
        Due.is("one import", code.split("\\bimport\\b", -1).length - 1, 1);
        Due.holds("of Arrays", code.contains("import java.util.Arrays;"));
        int begun = 0;
        String[] lines = text.split("\n");
        for (int i = 0; i < lines.length; i++) {
            String line = lines[i];
            if (line.matches(" {4,8}[A-Za-z].*\\) \\{")) {
                begun = i;
            } else if (line.matches(" {4,8}\\}") && begun > 0) {
                Due.holds("the method at line " + (begun + 1) + " is short", i - begun <= 60);
                begun = 0;
            }
        }
    }
}
