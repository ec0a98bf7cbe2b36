import java.io.IOException;
import java.lang.reflect.Constructor;
import java.lang.reflect.Field;
import java.lang.reflect.Method;
import java.lang.reflect.Modifier;
import java.nio.file.Files;
import java.nio.file.Path;
import java.util.ArrayList;
import java.util.LinkedHashMap;
import java.util.List;
import java.util.Map;
import java.util.regex.Matcher;
import java.util.regex.Pattern;

/**
 * The public face is the document's, member by member and with its parameters' names, and no more:
 * the document's own lines are compared with those of the source, and the class is looked at.
 */
public final class FaceTest {
    private static final Path SOURCE = Path.of("src/main/java/PolesInALake.java");
    private static final Path DOC = Path.of("../shared/DOC.md");

    public static void main(String[] args) throws IOException {
        String source = Files.readString(SOURCE);
        String doc = Files.readString(DOC);
        List<String> members = membersOf(doc.split("## The public face\n")[1].split("```")[1]);
        Due.due("members of the document's face", members.size(), 38);
        Due.isTrue("the source's face is the document's", membersOf(source).equals(members));
        promises(doc, members);
        groups(doc, source);
        methods(members.size() - 3);
        constructor();
        constants();
        inside();
        Due.end();
    }

    /** The class line and the lines of public members one step in, without what opens a body. */
    private static List<String> membersOf(String text) {
        List<String> members = new ArrayList<>();
        for (String line : text.split("\n")) {
            if (line.matches("( {4})?public .*")) {
                members.add(line.trim().replaceAll("( \\{|;)$", ""));
            }
        }
        return members;
    }

    /** Each promise is headed by a member of the face; the class and its constants have none. */
    private static void promises(String doc, List<String> members) {
        Matcher head = Pattern.compile("## Promise (\\d+): [^\n]*\n\n`([^`]*)`").matcher(doc);
        int found = 0;
        while (head.find()) {
            found++;
            Due.due("the promises' numbers", Integer.parseInt(head.group(1)), found);
            Due.isTrue("promise " + found + " is of " + head.group(2),
                members.size() > found + 1 && members.get(found + 1).equals("public " + head.group(2)));
        }
        Due.due("promises", found, 36);
    }

    /** Ahead of each group of calls stands what the document says. */
    private static void groups(String doc, String source) {
        Map<String, List<String>> want = new LinkedHashMap<>();
        Matcher says = Pattern.compile("Ahead of the calls ([^\n]*) the interface says: (---- [^\n]*)\\.").matcher(doc);
        while (says.find()) {
            List<String> calls = new ArrayList<>();
            for (String call : says.group(1).split(", ")) {
                calls.add(call.replace("`", ""));
            }
            want.put(says.group(2), calls);
        }
        Due.due("groups of calls", want.size(), 6);
        Map<String, List<String>> have = new LinkedHashMap<>();
        String group = "";
        for (String line : source.split("\n")) {
            Matcher call = Pattern.compile(" {4}public (?:int|long) (\\w+)\\(.*").matcher(line);
            if (line.startsWith("    // ---- ")) {
                group = line.substring(7);
            } else if (call.matches()) {
                have.computeIfAbsent(group, g -> new ArrayList<>()).add(call.group(1));
            }
        }
        Due.isTrue("the groups of calls are the document's", have.equals(want));
    }

    private static void methods(int want) {
        Class<?> c = PolesInALake.class;
        Due.due("public and final", c.getModifiers(), Modifier.PUBLIC | Modifier.FINAL);
        int open = 0;
        for (Method m : c.getDeclaredMethods()) {
            if (Modifier.isPublic(m.getModifiers())) {
                open++;
                Due.due("of an object: " + m, m.getModifiers(), Modifier.PUBLIC);
                Due.due("throws nothing: " + m, m.getExceptionTypes().length, 0);
            } else {
                Due.isTrue("private: " + m, Modifier.isPrivate(m.getModifiers()));
            }
        }
        Due.due("public calls", open, want);
        Due.isTrue("of no other class", c.getSuperclass() == Object.class && c.getInterfaces().length == 0);
    }

    private static void constructor() {
        Constructor<?>[] made = PolesInALake.class.getDeclaredConstructors();
        Due.due("one constructor", made.length, 1);
        Due.due("it is public", made[0].getModifiers(), Modifier.PUBLIC);
        Due.due("it takes nothing", made[0].getParameterCount(), 0);
    }

    private static void constants() {
        Due.due("UNKNOWN", PolesInALake.UNKNOWN, -1);
        Due.due("OUTSIDE", PolesInALake.OUTSIDE, -2);
        Due.due("STATE", PolesInALake.STATE, -3);
        Due.due("FULL", PolesInALake.FULL, -4);
        Due.due("NONE", PolesInALake.NONE, -9);
        int open = 0;
        for (Field f : PolesInALake.class.getDeclaredFields()) {
            if (Modifier.isPublic(f.getModifiers())) {
                open++;
                Due.isTrue("an int, static and final: " + f, f.getType() == int.class
                    && f.getModifiers() == (Modifier.PUBLIC | Modifier.STATIC | Modifier.FINAL));
            } else {
                Due.isTrue("private: " + f, Modifier.isPrivate(f.getModifiers()));
            }
        }
        Due.due("public fields", open, 5);
    }

    private static void inside() {
        for (Class<?> c : PolesInALake.class.getDeclaredClasses()) {
            Due.isTrue("static: " + c, Modifier.isStatic(c.getModifiers()));
            Due.isTrue("not public: " + c, !Modifier.isPublic(c.getModifiers()));
            Due.isTrue("not protected: " + c, !Modifier.isProtected(c.getModifiers()));
        }
    }
}
