import java.io.IOException;
import java.lang.reflect.Method;
import java.lang.reflect.Modifier;
import java.nio.file.Files;
import java.nio.file.Path;
import java.util.HashSet;
import java.util.Set;
import java.util.regex.Matcher;
import java.util.regex.Pattern;

/** The examples in README.md answer what is told there, and README.md names every call and every test. */
final class ReadmeTest {
    private static final Check CHECK = new Check("ReadmeTest");
    private static final Pattern CALL = Pattern.compile("solver\\.(\\w+)\\(([^)]*)\\); +// (-?[0-9]+): .*");
    private static final Set<String> SHOWN = new HashSet<>();

    public static void main(String[] args) throws IOException, ReflectiveOperationException {
        String text = Files.readString(Path.of("README.md"));
        boolean isExample = false;
        RowSolver solver = null;
        for (String line : text.split("\n")) {
            if (line.startsWith("```")) {
                isExample = line.equals("```java");
            } else if (isExample && line.equals("RowSolver solver = new RowSolver();")) {
                solver = new RowSolver();
            } else if (isExample && !line.isBlank()) {
                example(solver, line);
            }
        }
        for (Method method : RowSolver.class.getDeclaredMethods()) {
            boolean isPublic = Modifier.isPublic(method.getModifiers());
            CHECK.due(method.getName() + " is shown", !isPublic || SHOWN.contains(method.getName()) ? 1 : 0, 1);
        }
        testsAreNamed(text);
        CHECK.end();
    }

    private static void example(RowSolver solver, String line) throws ReflectiveOperationException {
        Matcher matcher = CALL.matcher(line);
        boolean fits = solver != null && matcher.matches();
        CHECK.due("README's line " + line, fits ? 1 : 0, 1);
        if (fits) {
            SHOWN.add(matcher.group(1));
            CHECK.due(line, answer(solver, matcher.group(1), matcher.group(2)), Long.parseLong(matcher.group(3)));
        }
    }

    private static int answer(RowSolver solver, String name, String list) throws ReflectiveOperationException {
        String[] parts = list.isBlank() ? new String[0] : list.split(", ");
        Object[] arguments = new Object[parts.length];
        Class<?>[] types = new Class<?>[parts.length];
        for (int k = 0; k < parts.length; k++) {
            boolean isChoice = parts[k].equals("true") || parts[k].equals("false");
            types[k] = isChoice ? boolean.class : int.class;
            arguments[k] = isChoice ? (Object) Boolean.valueOf(parts[k]) : Integer.valueOf(parts[k].replace("_", ""));
        }
        return (int) RowSolver.class.getMethod(name, types).invoke(solver, arguments);
    }

    private static void testsAreNamed(String text) throws IOException {
        try (var files = Files.list(Path.of("src/test/java"))) {
            for (Path file : (Iterable<Path>) files::iterator) {
                String name = file.getFileName().toString().replace(".java", "");
                CHECK.due(name + " is named", text.contains(name) ? 1 : 0, 1);
            }
        }
    }
}
