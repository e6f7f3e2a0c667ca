import java.io.IOException;
import java.lang.reflect.Method;
import java.lang.reflect.Modifier;
import java.nio.file.Files;
import java.nio.file.Path;
import java.util.regex.Matcher;
import java.util.regex.Pattern;
import java.util.stream.Stream;

/** Whether README.md's example answers what stands behind its calls, and whether it names each call and test. */
public final class ReadmeTest {
    private static final Pattern TOWN = Pattern.compile("String town = \"([^\"]*)\";");
    private static final Pattern CALL = Pattern.compile("(?m)^ *x\\.(\\w+)\\(([-0-9, ]*)\\); +// (-?\\d+)\\b");

    public static void main(String[] args) throws IOException, ReflectiveOperationException {
        String readme = Files.readString(Path.of("README.md"));
        example(readme);
        for (Method m : BolsterBeds.class.getDeclaredMethods()) {
            if (Modifier.isPublic(m.getModifiers())) {
                names(readme, m.getName());
            }
        }
        try (Stream<Path> files = Files.list(Path.of("src/test/java"))) {
            for (Path file : files.sorted().toList()) {
                String name = file.getFileName().toString().replace(".java", "");
                if (name.endsWith("Test")) {
                    names(readme, name);
                }
            }
        }
        Check.end("ReadmeTest");
    }

    private static void names(String readme, String name) {
        Check.due("README.md names " + name, readme.contains("`" + name + "`") ? 1 : 0, 1);
    }

    private static void example(String readme) throws ReflectiveOperationException {
        Matcher town = TOWN.matcher(readme);
        Check.due("README.md has a town", town.find() ? 1 : 0, 1);
        BolsterBeds x = new BolsterBeds();
        Check.write(x, 0, town.group(1));
        int calls = 0;
        Matcher call = CALL.matcher(readme);
        while (call.find()) {
            calls++;
            long got = ((Number) method(call.group(1)).invoke(x, numbers(call.group(2)))).longValue();
            Check.due("README.md: " + call.group(1) + "(" + call.group(2) + ")", got, Long.parseLong(call.group(3)));
        }
        Check.due("README.md's calls that tell their answer, at least 15", calls >= 15 ? 1 : 0, 1);
    }

    private static Method method(String name) {
        for (Method m : BolsterBeds.class.getDeclaredMethods()) {
            if (m.getName().equals(name)) {
                return m;
            }
        }
        throw new IllegalArgumentException("README.md calls " + name + ", which there is not");
    }

    private static Object[] numbers(String listed) {
        if (listed.isBlank()) {
            return new Object[0];
        }
        String[] parts = listed.split(",");
        Object[] numbers = new Object[parts.length];
        for (int k = 0; k < parts.length; k++) {
            numbers[k] = Integer.parseInt(parts[k].strip());
        }
        return numbers;
    }
}
