import java.lang.reflect.Constructor;
import java.lang.reflect.Field;
import java.lang.reflect.Member;
import java.lang.reflect.Method;
import java.lang.reflect.Modifier;
import java.nio.charset.StandardCharsets;
import java.nio.file.Files;
import java.nio.file.Path;
import java.util.Arrays;
import java.util.Set;
import java.util.TreeSet;
import java.util.regex.Matcher;
import java.util.regex.Pattern;

/** The face of the document, and what of LANGUAGE.md can be seen from outside. It is run from the project's root. */
public final class RulesTest {
    private static final Due due = new Due();
    private static final String[] FACE = {
        "write/1", "erase/0", "fault/0", "army/0", "man/2", "as/2", "day/1", "mend/2", "swap/2", "undo/0", "keep/1",
        "back/1", "behind/2", "home/1", "quiet/0", "left/2", "coat/1", "pairs/3", "keeps/3", "seen/3", "forget/0",
        "kinds/0", "ask/0", "sheet/3", "set/4", "get/3", "copy/5", "join/2", "sum/1", "drop/1", "count/1",
    };
    private static final String[] CONSTANTS = {
        "NONE", "UNKNOWN", "OUTSIDE", "NOT", "FULL", "NULL", "SIZE", "CAST", "INDEX", "ROOM",
    };
    private static final int[] VALUES = {-1, -2, -3, -4, -5, -11, -12, -13, -14, -15};

    public static void main(String[] args) throws Exception {
        face();
        constants();
        insideClasses();
        privateNames();
        methodsAreShort();
        objectsAreMadeAtFirst();
        libraryIsListed();
        words();
        due.end();
    }

    private static boolean isSeen(Member member) {
        return !Modifier.isPrivate(member.getModifiers());
    }

    private static void face() {
        Set<String> found = new TreeSet<>();
        for (Method m : OppositeThreads.class.getDeclaredMethods()) {
            if (isSeen(m)) {
                found.add(m.getName() + "/" + m.getParameterCount());
                due.holds(m + " is public and of this object", Modifier.isPublic(m.getModifiers()) && !Modifier.isStatic(m.getModifiers()));
                due.holds(m + " answers an int", m.getReturnType() == int.class);
            }
        }
        due.holds("the methods are those of the face: " + found, found.equals(new TreeSet<>(Arrays.asList(FACE))));
        Constructor<?>[] made = OppositeThreads.class.getDeclaredConstructors();
        due.holds("one public constructor", made.length == 1 && Modifier.isPublic(made[0].getModifiers()) && made[0].getParameterCount() == 0);
        int modifiers = OppositeThreads.class.getModifiers();
        due.holds("public and final", Modifier.isPublic(modifiers) && Modifier.isFinal(modifiers));
    }

    private static void constants() throws Exception {
        for (int i = 0; i < CONSTANTS.length; i++) {
            due.is(CONSTANTS[i], OppositeThreads.class.getField(CONSTANTS[i]).getInt(null), VALUES[i]);
        }
        int seen = 0;
        for (Field f : OppositeThreads.class.getDeclaredFields()) {
            seen += isSeen(f) ? 1 : 0;
        }
        due.is("fields that are seen", seen, CONSTANTS.length);
    }

    private static void insideClasses() {
        Set<String> names = new TreeSet<>();
        for (String name : FACE) {
            names.add(name.substring(0, name.indexOf('/')));
        }
        Class<?>[] inside = OppositeThreads.class.getDeclaredClasses();
        due.holds("at most twelve classes", inside.length < 12);
        for (Class<?> c : inside) {
            due.holds(c + " is static", Modifier.isStatic(c.getModifiers()));
            for (Method m : c.getDeclaredMethods()) {
                due.holds(m + " has a name of its own", !names.contains(m.getName()));
                due.holds(m + " has at most seven parameters", m.getParameterCount() <= 7);
            }
            for (Field f : c.getDeclaredFields()) {
                due.holds(f + " is final if static", !Modifier.isStatic(f.getModifiers()) || Modifier.isFinal(f.getModifiers()));
            }
            due.holds(c + " has at most twenty fields", fieldsOf(c) <= 20);
        }
        due.holds("the class itself too", fieldsOf(OppositeThreads.class) <= 20);
    }

    private static int fieldsOf(Class<?> c) {
        int fields = 0;
        for (Field f : c.getDeclaredFields()) {
            fields += Modifier.isStatic(f.getModifiers()) ? 0 : 1;
        }
        return fields;
    }

    private static void privateNames() {
        Set<String> open = new TreeSet<>();
        for (Method m : OppositeThreads.class.getDeclaredMethods()) {
            if (isSeen(m)) {
                open.add(m.getName());
            }
        }
        for (Method m : OppositeThreads.class.getDeclaredMethods()) {
            due.holds(m + " has a name of its own", isSeen(m) || !open.contains(m.getName()));
        }
        for (Field f : OppositeThreads.class.getDeclaredFields()) {
            due.holds(f + " is final", Modifier.isFinal(f.getModifiers()));
        }
    }

    /** A method of a class here begins four spaces in, or eight, and ends with a brace that is as far in. */
    private static void methodsAreShort() throws Exception {
        String[] lines = source().split("\n");
        int methods = 0;
        for (int i = 0; i < lines.length; i++) {
            Matcher m = Pattern.compile("^( {4}| {8})[^ /*].*\\) \\{$").matcher(lines[i]);
            // Within a method that stands four spaces in, eight spaces begin a statement.
            if (m.matches() && !lines[i].trim().matches("(if|for|while|switch|\\}).*")) {
                int end = i;
                while (end < lines.length && !lines[end].equals(m.group(1) + "}")) {
                    end++;
                }
                methods++;
                due.holds("at most sixty lines: " + lines[i].trim(), end - i <= 60);
            }
        }
        due.holds("methods were found", methods > 60);
    }

    private static String source() throws Exception {
        return Files.readString(Path.of("src/main/java/OppositeThreads.java"), StandardCharsets.UTF_8);
    }

    private static String codeOf(String source) {
        return source.replaceAll("(?s)/\\*.*?\\*/", "").replaceAll("//[^\n]*", "");
    }

    /** The room of a run is counted: rows and objects are made by constructors, and used again by every call. */
    private static void objectsAreMadeAtFirst() throws Exception {
        Pattern header = Pattern.compile("^ {4,8}(?:[\\w\\[\\]]+ )*(\\w+)\\([^;]*\\) \\{$");
        String method = "";
        int made = 0;
        for (String line : codeOf(source()).split("\n")) {
            Matcher m = header.matcher(line);
            if (m.matches()) {
                method = m.group(1);
            }
            if (line.matches(".*\\bnew\\b.*")) {
                made++;
                due.holds("made by a constructor: " + line.trim(), Character.isUpperCase(method.charAt(0)));
            }
        }
        due.holds("objects were found", made > 10);
    }

    private static void libraryIsListed() throws Exception {
        Set<String> listed = new TreeSet<>(Arrays.asList("Math.max", "Math.min", "Integer.bitCount", "System.arraycopy"));
        Set<String> own = new TreeSet<>();
        for (Class<?> c : OppositeThreads.class.getDeclaredClasses()) {
            own.add(c.getSimpleName());
        }
        Matcher m = Pattern.compile("\\b([A-Z][A-Za-z]*[a-z])\\.(\\w+)\\(").matcher(codeOf(source()));
        int found = 0;
        while (m.find()) {
            found++;
            due.holds("the library has " + m.group(), own.contains(m.group(1)) || listed.contains(m.group(1) + "." + m.group(2)));
        }
        due.holds("calls were found", found > 10);
    }

    private static void words() throws Exception {
        String source = source();
        String code = codeOf(source);
        Pattern banned = Pattern.compile("\\b(throw|throws|try|catch|synchronized|assert|import|package|double|float|native|volatile"
            + "|transient|Random|Thread|File|Object|hashCode|toString|\\w+Exact)\\b|->|::|@");
        Matcher m = banned.matcher(code);
        while (m.find()) {
            due.holds("no '" + m.group() + "' in the class", false);
        }
        for (int i = 0; i < source.length(); i++) {
            if (source.charAt(i) > 126) {
                due.holds("only plain signs in the class, at " + i, false);
            }
        }
        due.holds("looked at", !code.isEmpty());
    }
}
