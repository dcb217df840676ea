import java.io.IOException;
import java.lang.reflect.Method;
import java.lang.reflect.Modifier;
import java.nio.file.Files;
import java.nio.file.Path;
import java.util.List;
import java.util.Set;
import java.util.TreeSet;
import java.util.regex.Matcher;
import java.util.regex.Pattern;

/** README.md tells of each method of the face, and its examples answer as it says. */
public final class ReadmeTests {
    private static final Pattern MADE = Pattern.compile("SpectrumHeads heads = new SpectrumHeads\\((\\d+)\\);");
    private static final Pattern CALLED = Pattern.compile("heads\\.(\\w+)\\(([^)]*)\\);\\s+// ([^:]+)(:.*)?");
    private static final Pattern ROW = Pattern.compile("\\| `(\\w+)\\(([^)]*)\\)` \\|.*");

    private final Set<String> called = new TreeSet<>();
    private final Set<String> told = new TreeSet<>();
    private Run heads = null;

    public static void main(String[] args) throws IOException {
        ReadmeTests t = new ReadmeTests();
        boolean inJava = false;
        for (String line : Files.readAllLines(Path.of("README.md"))) {
            if (line.startsWith("```")) {
                inJava = line.equals("```java");
            } else if (inJava && !line.isBlank()) {
                t.example(line.strip());
            } else {
                t.table(line);
            }
        }
        t.allMethods();
        Due.end();
    }

    private void example(String line) {
        Matcher made = MADE.matcher(line);
        Matcher call = CALLED.matcher(line);
        if (made.matches()) {
            heads = new Run(Integer.parseInt(made.group(1)));
        } else if (call.matches() && heads != null) {
            called.add(call.group(1));
            heads.due(answer(call.group(3).strip()), call.group(1), arguments(call.group(2)));
        } else {
            Due.yes("README.md: a call with its answer: " + line, false);
        }
    }

    private static long[] arguments(String text) {
        if (text.isBlank()) {
            return new long[0];
        }
        return List.of(text.split(",")).stream().mapToLong(a -> answer(a.strip())).toArray();
    }

    private static long answer(String text) {
        return switch (text) {
            case "true" -> 1L;
            case "false" -> 0L;
            case "NONE", "SpectrumHeads.NONE" -> SpectrumHeads.NONE;
            case "throws ArrayIndexOutOfBoundsException" -> Call.THROWS;
            default -> Long.parseLong(text);
        };
    }

    private void table(String line) {
        Matcher row = ROW.matcher(line);
        if (row.matches()) {
            int arguments = row.group(2).isBlank() ? 0 : row.group(2).split(",").length;
            told.add(row.group(1) + " of " + arguments);
        }
    }

    private void allMethods() {
        for (Method m : SpectrumHeads.class.getDeclaredMethods()) {
            if (Modifier.isPublic(m.getModifiers())) {
                String name = m.getName() + " of " + m.getParameterCount();
                Due.yes("README.md tells of " + name, told.remove(name));
                Due.yes("README.md has an example of " + m.getName(), called.contains(m.getName()));
            }
        }
        Due.yes("README.md tells of no other method: " + told, told.isEmpty());
    }
}
