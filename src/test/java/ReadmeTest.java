import java.io.File;
import java.io.IOException;
import java.lang.reflect.Method;
import java.lang.reflect.Modifier;
import java.nio.file.Files;
import java.nio.file.Path;
import java.util.List;
import java.util.Set;
import java.util.TreeSet;
import java.util.regex.Matcher;
import java.util.regex.Pattern;

/** README.md shows every call of the face, with the answers that the class gives, and names every test. */
public final class ReadmeTest {
    private static final String NEW = "BraidWords x = new BraidWords();";
    private static final Pattern CALL = Pattern.compile("x\\.(\\w+)\\(([^)]*)\\); +// (-?\\w+)(:.*)?");

    private static final Set<String> shown = new TreeSet<>();
    private static BraidWords x = new BraidWords();

    public static void main(String[] args) throws IOException, ReflectiveOperationException {
        List<String> lines = Files.readAllLines(Path.of("README.md"));
        boolean inside = false;
        for (String line : lines) {
            if (line.startsWith("```")) {
                inside = line.equals("```java");
            } else if (inside) {
                run(line);
            }
        }
        Set<String> face = new TreeSet<>();
        for (Method method : BraidWords.class.getDeclaredMethods()) {
            if (Modifier.isPublic(method.getModifiers())) {
                face.add(method.getName());
            }
        }
        Due.equal("calls that README.md shows", shown.toString(), face.toString());
        everyTestIsNamed(String.join("\n", lines));
        Due.finish();
    }

    private static void run(String line) throws ReflectiveOperationException {
        Matcher call = CALL.matcher(line);
        if (line.equals(NEW)) {
            x = new BraidWords();
        } else if (call.matches()) {
            shown.add(call.group(1));
            Due.equal("README.md: " + line, answer(call.group(1), call.group(2).split(", ")), call.group(3));
        } else {
            Due.report("README.md shows no answer in: " + line);
        }
    }

    private static String answer(String name, String[] given) throws ReflectiveOperationException {
        for (Method method : BraidWords.class.getDeclaredMethods()) {
            if (method.getName().equals(name) && method.getParameterCount() == given.length) {
                return String.valueOf(method.invoke(x, values(method.getParameterTypes(), given)));
            }
        }
        return "that there is no such call";
    }

    private static Object[] values(Class<?>[] types, String[] given) {
        Object[] values = new Object[given.length];
        for (int a = 0; a < given.length; a++) {
            boolean number = types[a] == int.class;
            values[a] = number ? (Object) Integer.valueOf(given[a]) : (Object) Boolean.valueOf(given[a]);
        }
        return values;
    }

    private static void everyTestIsNamed(String readme) {
        String[] files = new File("src/test/java").list();
        Due.equal("there are tests", files != null && files.length > 0, true);
        for (String file : files == null ? new String[0] : files) {
            String name = file.replace(".java", "");
            Due.equal("README.md names " + name, readme.contains("`" + name + "`"), true);
        }
    }
}
