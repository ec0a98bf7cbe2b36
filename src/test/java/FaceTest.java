import java.io.IOException;
import java.lang.reflect.Constructor;
import java.lang.reflect.Field;
import java.lang.reflect.Method;
import java.lang.reflect.Modifier;
import java.nio.file.Files;
import java.nio.file.Path;
import java.util.Arrays;
import java.util.TreeSet;
import java.util.regex.Pattern;

/** The public face is the document's and no more; the source keeps to words the rules leave. */
public final class FaceTest {
    private static final String[] CALLS = {
        "int write(int,long)", "int wipe()", "int fault()", "int lake()", "int about(int)",
        "int clay(int)", "int pole(int,int,int,boolean)", "int told(int,int)",
        "int house(int,int,int)", "int home(int,int)", "int year()", "int down(int,int)",
        "int off(int,int,int)", "int takes(int,int)", "int mended(int,int,int)",
        "int bestRule(int,int)", "int build(int,int,int)", "int rise(int)", "int calm()",
        "long wet(int,int,boolean)", "int dry(int,int)", "int ring(int,int)",
        "int match(int,int,int)", "int dated(int,int)", "int sure(int,int)",
        "int find(int,int,int)", "int unfind()", "int group(int)", "int houses()",
        "int later(int)", "int grew(int)", "int dig()", "int keep(int)", "int again(int)",
        "int count(int)"
    };
    private static final String[] RULED_OUT = {
        "\\bthrow\\b", "\\btry\\b", "\\bcatch\\b", "\\bsynchronized\\b", "\\bassert\\b", "->", "::",
        "\\bimport\\b", "\\bprotected\\b", "Exact\\b", "\\bSystem\\.(?!arraycopy)", "\\bstatic \\{"
    };

    public static void main(String[] args) throws IOException {
        face();
        constants();
        inside();
        source();
        Due.end();
    }

    private static void face() {
        Class<?> c = PolesInALake.class;
        Due.due("public and final", c.getModifiers(), Modifier.PUBLIC | Modifier.FINAL);
        TreeSet<String> names = new TreeSet<>();
        TreeSet<String> calls = new TreeSet<>();
        for (Method m : c.getDeclaredMethods()) {
            if (Modifier.isPublic(m.getModifiers())) {
                String all = m.toGenericString().replace("PolesInALake.", "").replace("public ", "");
                calls.add(all);
                names.add(m.getName());
            }
        }
        Due.due("calls", calls.equals(new TreeSet<>(Arrays.asList(CALLS))) ? 1 : 0, 1);
        for (Method m : c.getDeclaredMethods()) {
            if (!Modifier.isPublic(m.getModifiers())) {
                Due.due("private: " + m, Modifier.isPrivate(m.getModifiers()) ? 1 : 0, 1);
                Due.due("a name of its own: " + m, names.contains(m.getName()) ? 1 : 0, 0);
            }
        }
        Constructor<?>[] made = c.getDeclaredConstructors();
        Due.due("one constructor", made.length, 1);
        Due.due("it is public", made[0].getModifiers(), Modifier.PUBLIC);
        Due.due("it takes nothing", made[0].getParameterCount(), 0);
    }

    private static void constants() {
        Due.due("UNKNOWN", PolesInALake.UNKNOWN, -1);
        Due.due("OUTSIDE", PolesInALake.OUTSIDE, -2);
        Due.due("STATE", PolesInALake.STATE, -3);
        Due.due("FULL", PolesInALake.FULL, -4);
        Due.due("NONE", PolesInALake.NONE, -9);
        int open = 0;
        for (Field f : PolesInALake.class.getDeclaredFields()) {
            if (Modifier.isPublic(f.getModifiers())) {
                open++;
            } else {
                Due.due("private: " + f, Modifier.isPrivate(f.getModifiers()) ? 1 : 0, 1);
            }
        }
        Due.due("public fields", open, 5);
    }

    private static void inside() {
        for (Class<?> c : PolesInALake.class.getDeclaredClasses()) {
            Due.due("static: " + c, Modifier.isStatic(c.getModifiers()) ? 1 : 0, 1);
            Due.due("not public: " + c, Modifier.isPublic(c.getModifiers()) ? 1 : 0, 0);
            for (Field f : c.getDeclaredFields()) {
                boolean fixed = !Modifier.isStatic(f.getModifiers()) || Modifier.isFinal(f.getModifiers());
                Due.due("no static state: " + f, fixed ? 1 : 0, 1);
            }
        }
    }

    private static void source() throws IOException {
        String text = Files.readString(Path.of("src/main/java/PolesInALake.java"));
        String code = text.replaceAll("(?s)/\\*.*?\\*/", "").replaceAll("//[^\n]*", "");
        for (String word : RULED_OUT) {
            Due.due("ruled out: " + word, Pattern.compile(word).matcher(code).find() ? 1 : 0, 0);
        }
    }
}
