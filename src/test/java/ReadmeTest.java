import java.lang.reflect.Method;
import java.nio.file.Files;
import java.nio.file.Path;
import java.util.Set;
import java.util.TreeSet;
import java.util.regex.Matcher;
import java.util.regex.Pattern;

/** README.md tells of the calls and constants of the document's face, and its example answers as the class does. */
public final class ReadmeTest {
    private static final Due due = new Due("ReadmeTest");
    private static final Pattern ASKED = Pattern.compile("(?m)^x\\.(\\w+)\\(([^)]*)\\);\\s*// (-?\\w+):");
    private static final Pattern FACE_CALL = Pattern.compile("(?m)^    public ((?:int|long) \\w+\\([^)]*\\));");
    private static final Pattern LISTED_CALL = Pattern.compile("(?m)^- `((?:int|long) \\w+\\([^)]*\\))`:");
    private static final Pattern FACE_CONSTANT = Pattern.compile("\\b([A-Z]+) = (-\\d+)");
    private static final Pattern LISTED_CONSTANT = Pattern.compile("(?m)^\\| `([A-Z]+)` \\| (-\\d+) \\|");

    public static void main(String[] args) throws Exception {
        Path root = Path.of(System.getProperty("opengrounds.root", "."));
        String readme = Files.readString(root.resolve("README.md"));
        String document = Files.readString(root.resolve("../shared/DOC.md"));
        same("calls", found(LISTED_CALL, readme), found(FACE_CALL, document), 25);
        same("constants", found(LISTED_CONSTANT, readme), found(FACE_CONSTANT, document), 8);
        example(readme);
        due.end();
    }

    private static Set<String> found(Pattern pattern, String text) {
        Set<String> all = new TreeSet<>();
        Matcher matcher = pattern.matcher(text);
        while (matcher.find()) {
            all.add(matcher.groupCount() == 1 ? matcher.group(1) : matcher.group(1) + " " + matcher.group(2));
        }
        return all;
    }

    private static void same(String what, Set<String> listed, Set<String> face, int size) {
        due.is(what + " of the document's face", face.size(), size);
        due.holds(what + " listed are those of the document's face: " + listed, listed.equals(face));
    }

    private static void example(String readme) throws ReflectiveOperationException {
        OpenGrounds x = new OpenGrounds();
        int asked = 0;
        Matcher line = ASKED.matcher(readme);
        while (line.find()) {
            asked++;
            String call = line.group(1) + "(" + line.group(2) + ")";
            due.is("line " + asked + " of the example, " + call, ask(x, line.group(1), line.group(2)), answer(line.group(3)));
        }
        due.is("lines of the example that tell an answer", asked, readme.split("(?m)^x\\.").length - 1);
        due.holds("the example has lines", asked > 0);
    }

    private static long ask(OpenGrounds x, String name, String arguments) throws ReflectiveOperationException {
        String[] texts = arguments.isEmpty() ? new String[0] : arguments.split(", ");
        Object[] values = new Object[texts.length];
        for (int i = 0; i < texts.length; i++) {
            values[i] = texts[i].matches("true|false") ? (Object) Boolean.valueOf(texts[i]) : Integer.valueOf(texts[i]);
        }
        for (Method method : OpenGrounds.class.getMethods()) {
            if (method.getName().equals(name) && method.getParameterCount() == values.length) {
                return ((Number) method.invoke(x, values)).longValue();
            }
        }
        throw new NoSuchMethodException(name);
    }

    private static long answer(String told) throws ReflectiveOperationException {
        return told.matches("-?\\d+") ? Long.parseLong(told) : OpenGrounds.class.getField(told).getInt(null);
    }
}
