import java.io.IOException;
import java.lang.reflect.Constructor;
import java.lang.reflect.Field;
import java.lang.reflect.Method;
import java.lang.reflect.Modifier;
import java.nio.charset.StandardCharsets;
import java.nio.file.Files;
import java.nio.file.Path;
import java.util.ArrayList;
import java.util.Arrays;
import java.util.HashSet;
import java.util.List;
import java.util.Set;
import java.util.regex.Matcher;
import java.util.regex.Pattern;

/** What of LANGUAGE.md can be seen in the source and the compiled class. Run at the project's root. */
public final class LanguageTest {
    private static final Path SOURCE = Path.of("src/main/java/EggTrays.java");
    private static final String FACE = "feed text fault named look station row line seconds put change send undo waited slow many best seen "
            + "plates worth fill rule bus chance law count strike known fits keep back all";
    private static final Set<String> LIBRARY = new HashSet<>(Arrays.asList("System.arraycopy", "Math.min", "Math.max",
            "WORDS.length", "WORDS.charAt", "Integer.MIN_VALUE", "Long.MIN_VALUE", "java.util"));

    private static void no(String source, String what, String pattern) {
        Matcher m = Pattern.compile(pattern).matcher(source);
        Check.due(what + (m.find() ? " at '" + m.group() + "'" : ""), m.reset().find(), false);
    }

    private static String withoutComments(String source) {
        return source.replaceAll("(?s)/\\*.*?\\*/", "").replaceAll("//[^\n]*", "");
    }

    private static void sourceRules(String raw) {
        String source = withoutComments(raw);
        no(source, "a package line (head)", "(?m)^package ");
        no(source, "another import (head)", "import (?!java\\.util\\.NoSuchElementException;)");
        no(source, "lambda or method reference (2)", "->|::");
        no(source, "a library not used so far (4)", "\\b(String\\.|StringBuilder|ArrayList|List<|Arrays\\.|Integer\\.(?!MIN_VALUE)|Long\\.(?!MIN_VALUE)|Math\\.(?!min|max))");
        no(source, "Exact (4)", "Exact\\(");
        no(source, "text joined by + (10)", "\"\\s*\\+|\\+\\s*\"");
        no(source, "double or float (3)", "\\b(double|float)\\b");
        no(source, "a word that is ruled out (6)", "\\b(try|catch|finally|synchronized|assert|instanceof|volatile|native|Thread)\\b");
        no(source, "a signed text beyond 127 (4)", "[^\\x00-\\x7f]");
        no(source, "static that is not final (5)", "\\bstatic (?!final|.*\\(|.*class )");
        no(source, "a static block (5)", "\\bstatic \\{");
        no(source, "an endless loop (9)", "for \\(;;\\)|while \\(true\\)|\\bdo \\{");
        Matcher thrown = Pattern.compile("throw new (\\w+)\\(").matcher(source);
        int throwing = 0;
        while (thrown.find()) {
            throwing++;
            boolean named = thrown.group(1).equals("IndexOutOfBoundsException") || thrown.group(1).equals("NoSuchElementException");
            Check.due("throws " + thrown.group(1), named, true);
        }
        Check.due("throw statements", throwing, 2);
        Matcher dotted = Pattern.compile("\\b([A-Z][A-Za-z]*|java)\\.(\\w+)").matcher(source);
        while (dotted.find()) {
            Check.due("library " + dotted.group(), LIBRARY.contains(dotted.group()), true);
        }
    }

    private static void methodSizes(String raw) {
        String[] lines = raw.split("\n");
        Pattern head = Pattern.compile("^(    |        )(public |private )?(static )?(?!.*\\bclass\\b)[\\w\\[\\]]+ ?\\w*\\((.*)\\).*\\{$");
        int found = 0;
        for (int i = 0; i < lines.length; i++) {
            Matcher m = head.matcher(lines[i]);
            if (!m.matches()) {
                continue;
            }
            found++;
            int end = i;
            while (!lines[end].equals(m.group(1) + "}")) {
                end++;
            }
            Check.due("sixty lines of " + lines[i].trim(), end - i + 1 <= 60, true);
            Check.due("seven parameters of " + lines[i].trim(), m.group(4).split(",").length <= 7, true);
        }
        Check.due("methods were found", found > 100, true);
    }

    private static void face() throws ReflectiveOperationException {
        Class<?> c = EggTrays.class;
        Set<String> names = new HashSet<>(Arrays.asList(FACE.split(" ")));
        Check.due("33 promises", names.size(), 32);
        Check.due("public final", Modifier.isPublic(c.getModifiers()) && Modifier.isFinal(c.getModifiers()), true);
        for (Method m : c.getDeclaredMethods()) {
            boolean open = !Modifier.isPrivate(m.getModifiers());
            Check.due("visible as the face says: " + m.getName(), open, names.contains(m.getName()));
            Check.due("public: " + m.getName(), open && !Modifier.isPublic(m.getModifiers()), false);
        }
        for (Field f : c.getDeclaredFields()) {
            Check.due("visible: " + f.getName(), !Modifier.isPrivate(f.getModifiers()), f.getName().equals("NONE"));
        }
        Check.due("one constructor", c.getDeclaredConstructors().length, 1);
        for (Constructor<?> k : c.getConstructors()) {
            Check.due("without parameters", k.getParameterCount(), 0);
        }
        Check.due("NONE", c.getField("NONE").getInt(null), -1);
        Class<?>[] look = c.getMethod("look", int.class, int.class).getExceptionTypes();
        List<String> thrown = new ArrayList<>();
        for (Class<?> t : look) {
            thrown.add(t.getSimpleName());
        }
        Check.due("look's exceptions", thrown.equals(Arrays.asList("IndexOutOfBoundsException", "NoSuchElementException")), true);
        Check.due("law is a long", c.getMethod("law", int.class, int.class, int.class, int.class, int.class).getReturnType() == long.class, true);
        Class<?>[] inside = c.getDeclaredClasses();
        Check.due("at most twelve classes", inside.length + 1 <= 12, true);
        for (Class<?> n : inside) {
            Check.due("static: " + n.getSimpleName(), Modifier.isStatic(n.getModifiers()), true);
            int fields = 0;
            for (Field f : n.getDeclaredFields()) {
                fields += Modifier.isStatic(f.getModifiers()) ? 0 : 1;
            }
            Check.due("at most twenty fields: " + n.getSimpleName(), fields <= 20, true);
            for (Method m : n.getDeclaredMethods()) {
                Check.due("a name of the face inside: " + m.getName(), names.contains(m.getName()), false);
            }
        }
    }

    public static void main(String[] args) throws IOException, ReflectiveOperationException {
        String source = Files.readString(SOURCE, StandardCharsets.ISO_8859_1);
        sourceRules(source);
        methodSizes(source);
        face();
        Check.end();
    }
}
