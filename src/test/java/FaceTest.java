import java.io.IOException;
import java.lang.reflect.Constructor;
import java.lang.reflect.Field;
import java.lang.reflect.Member;
import java.lang.reflect.Method;
import java.lang.reflect.Modifier;
import java.nio.file.Files;
import java.nio.file.Path;
import java.util.Arrays;
import java.util.List;
import java.util.TreeSet;
import java.util.regex.Matcher;
import java.util.regex.Pattern;

/** The face of the class and no more, and those rules of LANGUAGE.md that a text search can tell. */
public final class FaceTest {
    private static final Due due = new Due("FaceTest");
    private static final String[] METHODS = {
        "int ground(int, int, boolean)", "int kind(int, int)", "int twin(int, int, boolean)",
        "int about(int, int)", "int told(int)", "int opens(int, int)", "int through(int, int)",
        "int wall(int, int)", "int heap(int, int)", "int heaps(int, int)", "int count(int, int)",
        "int walls(int, int)", "int joined(int, int, int)", "int sized(int, int, int)", "int heapSum(int)",
        "long chance(int, int, int)", "int pivot(int, int)", "int first(int, int)",
        "int sheet(int, int, int)", "int row(int, int, int)", "int put(int, int, int, int, int)",
        "int copy(int, int, int, int, int, int, int)", "int read(int, int)", "long trace()", "int status()",
    };
    private static final String[] CONSTANTS = {
        "BAD=-1", "STATE=-2", "FULL=-3", "NONE=-9", "NULL=-11", "INDEX=-12", "CAST=-13", "SIZE=-15",
    };
    private static final String[] NOT_TO_BE_FOUND = {
        "throw", "throws", "try", "catch", "synchronized", "assert", "package", "->", "::", "Exact", "static \\{",
        "System\\.(?!arraycopy)", "double", "float", "hashCode", "toString", "Random", "Thread",
    };

    public static void main(String[] args) throws Exception {
        Class<?> face = OpenGrounds.class;
        due.holds("public and final", Modifier.isPublic(face.getModifiers()) && Modifier.isFinal(face.getModifiers()));
        methods(face);
        constants(face);
        constructors(face);
        nested(face);
        source();
        due.end();
    }

    private static boolean isHidden(Member member) {
        return Modifier.isPrivate(member.getModifiers()) || member.isSynthetic();
    }

    private static void same(String what, TreeSet<String> got, String[] want) {
        due.holds(what + " are " + Arrays.toString(want) + ", found " + got, got.equals(new TreeSet<>(List.of(want))));
    }

    private static String signature(Method method) {
        StringBuilder text = new StringBuilder(method.getReturnType() + " " + method.getName() + "(");
        Class<?>[] types = method.getParameterTypes();
        for (int i = 0; i < types.length; i++) {
            text.append(i == 0 ? "" : ", ").append(types[i]);
        }
        return text.append(")").toString();
    }

    private static void methods(Class<?> face) {
        TreeSet<String> seen = new TreeSet<>();
        TreeSet<String> names = new TreeSet<>();
        for (Method method : face.getDeclaredMethods()) {
            if (!isHidden(method)) {
                seen.add(signature(method));
                names.add(method.getName());
                due.holds("public, not static: " + method, Modifier.isPublic(method.getModifiers())
                        && !Modifier.isStatic(method.getModifiers()));
            }
        }
        same("methods", seen, METHODS);
        for (Method method : face.getDeclaredMethods()) {
            due.holds("no private method bears a public name: " + method, !isHidden(method) || !names.contains(method.getName()));
        }
    }

    private static void constants(Class<?> face) throws IllegalAccessException {
        TreeSet<String> seen = new TreeSet<>();
        for (Field field : face.getDeclaredFields()) {
            int modifiers = field.getModifiers();
            if (!isHidden(field)) {
                seen.add(field.getName() + "=" + field.getInt(null));
                due.holds("a constant of int: " + field, field.getType() == int.class && Modifier.isPublic(modifiers));
            }
            due.holds("static is final: " + field, !Modifier.isStatic(modifiers) || Modifier.isFinal(modifiers));
        }
        same("constants", seen, CONSTANTS);
    }

    private static void constructors(Class<?> face) {
        Constructor<?>[] all = face.getDeclaredConstructors();
        due.is("constructors", all.length, 1);
        due.holds("public, of nothing", Modifier.isPublic(all[0].getModifiers()) && all[0].getParameterCount() == 0);
    }

    private static void nested(Class<?> face) {
        for (Class<?> inside : face.getDeclaredClasses()) {
            int modifiers = inside.getModifiers();
            due.holds("static, not public: " + inside, Modifier.isStatic(modifiers)
                    && !Modifier.isPublic(modifiers) && !Modifier.isProtected(modifiers));
        }
    }

    private static void source() throws IOException {
        String path = System.getProperty("opengrounds.source", "src/main/java/OpenGrounds.java");
        String text = Files.readString(Path.of(path)).replaceAll("(?s)/\\*.*?\\*/", "").replaceAll("//[^\n]*", "");
        for (String word : NOT_TO_BE_FOUND) {
            boolean isWord = Character.isLetter(word.charAt(0)) && Character.isLetter(word.charAt(word.length() - 1));
            Matcher found = Pattern.compile(isWord && !word.equals("Exact") ? "\\b" + word + "\\b" : word).matcher(text);
            due.holds("the source has no " + word, !found.find());
        }
        Matcher imports = Pattern.compile("import ([^;]*);").matcher(text);
        while (imports.find()) {
            due.holds("import " + imports.group(1), imports.group(1).equals("java.util.Arrays"));
        }
    }
}
