import java.io.IOException;
import java.io.StringWriter;
import java.io.UncheckedIOException;
import java.lang.reflect.InvocationTargetException;
import java.lang.reflect.Method;
import java.lang.reflect.Modifier;
import java.net.URI;
import java.net.URL;
import java.net.URLClassLoader;
import java.nio.charset.StandardCharsets;
import java.nio.file.Files;
import java.nio.file.Path;
import java.util.ArrayList;
import java.util.List;
import java.util.regex.Matcher;
import java.util.regex.Pattern;
import javax.tools.JavaCompiler;
import javax.tools.JavaFileObject;
import javax.tools.SimpleJavaFileObject;
import javax.tools.ToolProvider;

/** What README.md says is so when it is tried. */
public final class ReadmeTests {
    private static final Pattern EXAMPLE = Pattern.compile("(?ms)^```java\n(.*?)^```$");
    private static final Pattern ANSWER =
        Pattern.compile("(int \\w+ = )?(m\\..*);\\s*// (-?\\d+)\\b.*");
    private static final Pattern REFUSAL = Pattern.compile("(m\\..*);\\s*// throws (\\w+):.*");

    private ReadmeTests() {
    }

    static void run(Tally t, Path readme) {
        t.test("README: its examples", () -> examples(read(readme)));
        t.test("README: it names every call", () -> namesEveryCall(read(readme)));
    }

    private static String read(Path readme) {
        try {
            return Files.readString(readme, StandardCharsets.UTF_8);
        } catch (IOException e) {
            throw new UncheckedIOException(e);
        }
    }

    private static void namesEveryCall(String readme) {
        for (Method method : PageMarriages.class.getDeclaredMethods()) {
            if (Modifier.isPublic(method.getModifiers())
                    && !readme.contains("`" + method.getName() + "`")) {
                throw new AssertionError("README does not name " + method.getName());
            }
        }
    }

    private static void examples(String readme) {
        Matcher found = EXAMPLE.matcher(readme);
        int count = 0;
        while (found.find()) {
            tryOut("ReadmeExample" + count, found.group(1));
            count++;
        }
        Tally.is("the number of examples", 2, count);
    }

    /** A call with an answer behind it becomes one that checks the answer. */
    private static String checked(String line) {
        Matcher answer = ANSWER.matcher(line);
        if (answer.matches()) {
            String declares = answer.group(1) == null ? "" : answer.group(1);
            return declares + "ReadmeTests.due(\"" + answer.group(2) + "\", " + answer.group(3)
                + ", " + answer.group(2) + ");";
        }
        Matcher refusal = REFUSAL.matcher(line);
        if (refusal.matches()) {
            return "ReadmeTests.refused(" + refusal.group(2) + ".class, () -> "
                + refusal.group(1) + ");";
        }
        if (line.startsWith("m.")) {
            throw new AssertionError("no answer behind " + line);
        }
        return line;
    }

    /** Called by the examples. */
    public static int due(String call, int due, int got) {
        Tally.is(call, due, got);
        return got;
    }

    /** Called by the examples. */
    public static void refused(Class<? extends RuntimeException> due, Runnable call) {
        Tally.throwsA(due, call::run);
    }

    private static void tryOut(String name, String example) {
        StringBuilder source = new StringBuilder();
        source.append("public final class ").append(name)
            .append(" { public static void go() {\n");
        for (String line : example.split("\n")) {
            source.append(checked(line)).append('\n');
        }
        source.append("} }\n");
        try {
            Path out = Files.createTempDirectory("readme");
            try {
                compile(name, source.toString(), out);
                go(name, out);
            } finally {
                Files.deleteIfExists(out.resolve(name + ".class"));
                Files.delete(out);
            }
        } catch (IOException e) {
            throw new UncheckedIOException(e);
        }
    }

    private static void compile(String name, String source, Path out) {
        JavaCompiler compiler = ToolProvider.getSystemJavaCompiler();
        if (compiler == null) {
            throw new AssertionError("there is no compiler");
        }
        URI uri = URI.create("string:///" + name + ".java");
        SimpleJavaFileObject file = new SimpleJavaFileObject(uri, JavaFileObject.Kind.SOURCE) {
            @Override
            public CharSequence getCharContent(boolean ignoreEncodingErrors) {
                return source;
            }
        };
        List<String> options = new ArrayList<>(List.of("-d", out.toString(), "-classpath",
            System.getProperty("java.class.path")));
        StringWriter said = new StringWriter();
        if (!compiler.getTask(said, null, null, options, null, List.of(file)).call()) {
            throw new AssertionError(said.toString());
        }
    }

    private static void go(String name, Path out) throws IOException {
        try (URLClassLoader loader = new URLClassLoader(new URL[] {out.toUri().toURL()},
                ReadmeTests.class.getClassLoader())) {
            loader.loadClass(name).getMethod("go").invoke(null);
        } catch (InvocationTargetException e) {
            throw new AssertionError(e.getCause());
        } catch (ReflectiveOperationException e) {
            throw new AssertionError(e);
        }
    }
}
