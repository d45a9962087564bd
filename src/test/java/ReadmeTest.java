import java.io.IOException;
import java.lang.reflect.Method;
import java.nio.charset.StandardCharsets;
import java.nio.file.Files;
import java.nio.file.Path;
import java.util.HashSet;
import java.util.Set;
import java.util.regex.Matcher;
import java.util.regex.Pattern;

/** What README.md says that EggTrays answers, it answers. Run at the project's root. */
public final class ReadmeTest {
    private static final Pattern CALL = Pattern.compile("table\\.(\\w+)\\(([-\\d, ]*)\\);\\s*// (-?\\d+) ");
    private static final Pattern TOLD = Pattern.compile("told\\((\"[^)]*\")\\);");

    /** The text in the call of told(), its pieces joined. */
    private static String text(String readme) {
        Matcher told = TOLD.matcher(readme);
        Check.due("a text is told", told.find(), true);
        return told.group(1).replaceAll("\"\\s*\\+\\s*\"", "").replace("\"", "");
    }

    private static int answer(EggTrays table, String name, String numbers) throws ReflectiveOperationException {
        String[] told = numbers.isEmpty() ? new String[0] : numbers.split(", ");
        Class<?>[] types = new Class<?>[told.length];
        Object[] arguments = new Object[told.length];
        for (int i = 0; i < told.length; i++) {
            types[i] = int.class;
            arguments[i] = Integer.valueOf(told[i]);
        }
        Method method = EggTrays.class.getMethod(name, types);
        return ((Number) method.invoke(table, arguments)).intValue();
    }

    private static void answers(String readme) throws ReflectiveOperationException {
        EggTrays table = Check.told(text(readme));
        Matcher call = CALL.matcher(readme);
        int asked = 0;
        while (call.find()) {
            asked++;
            Check.due(call.group(), answer(table, call.group(1), call.group(2)), Integer.parseInt(call.group(3)));
        }
        Check.due("lines with an answer", asked, readme.split("\ntable\\.", -1).length - 1);
    }

    /** Every call of the face, and every test, is named there. */
    private static void named(String readme) throws IOException {
        for (Method m : EggTrays.class.getDeclaredMethods()) {
            boolean face = java.lang.reflect.Modifier.isPublic(m.getModifiers());
            Check.due("README names " + m.getName(), !face || readme.contains("`" + m.getName() + "`"), true);
        }
        Set<String> missing = new HashSet<>();
        try (java.util.stream.Stream<Path> files = Files.list(Path.of("src/test/java"))) {
            files.forEach(f -> {
                String name = f.getFileName().toString().replace(".java", "");
                if (!readme.contains(name)) {
                    missing.add(name);
                }
            });
        }
        Check.due("README doesn't name " + missing, missing.isEmpty(), true);
    }

    public static void main(String[] args) throws IOException, ReflectiveOperationException {
        String readme = Files.readString(Path.of("README.md"), StandardCharsets.UTF_8);
        answers(readme);
        named(readme);
        Check.end();
    }
}
