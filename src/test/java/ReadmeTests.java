import java.io.ByteArrayOutputStream;
import java.io.IOException;
import java.io.PrintStream;
import java.lang.reflect.InvocationTargetException;
import java.lang.reflect.Method;
import java.lang.reflect.Modifier;
import java.net.URL;
import java.net.URLClassLoader;
import java.nio.charset.StandardCharsets;
import java.nio.file.Files;
import java.nio.file.Path;
import java.util.ArrayList;
import java.util.List;
import java.util.regex.Matcher;
import java.util.regex.Pattern;
import javax.tools.ToolProvider;

/** The example in README.md compiles and gives the answers that it names, and README.md tells of every call. */
public final class ReadmeTests {
    private static final Pattern JAVA_BLOCK = Pattern.compile("(?ms)^```java\\n(.*?)^```$");
    private static final Pattern PRINTING = Pattern.compile("(print\\(.*\\);) +// (.*)");

    private final Checks checks = new Checks("ReadmeTests");
    private final Path source;
    private final Path folder;
    private final String readme;

    private ReadmeTests(Path source, Path readmeFile, Path folder) throws IOException {
        this.source = source;
        this.folder = Files.createDirectories(folder);
        this.readme = Files.readString(readmeFile);
    }

    /** Takes the source of the class, README.md, and a folder to compile the example into. */
    public static void main(String[] args) throws IOException {
        ReadmeTests tests = new ReadmeTests(Path.of(args[0]), Path.of(args[1]), Path.of(args[2]));
        Matcher block = JAVA_BLOCK.matcher(tests.readme);
        boolean isThere = block.find();
        tests.checks.holds("README.md has an example", isThere);
        if (isThere) {
            String example = block.group(1);
            tests.checkCalls(example);
            tests.checkAnswers(example);
            tests.checks.holds("README.md has one example alone", !block.find());
        }
        tests.checks.close();
    }

    /** Each call of the face stands in the example and in the lists of calls. */
    private void checkCalls(String example) {
        for (Method method : GlossRows.class.getDeclaredMethods()) {
            if (Modifier.isPublic(method.getModifiers())) {
                String name = method.getName();
                checks.holds("the example calls " + name, example.contains(" rows." + name + "(")
                    || example.contains("(rows." + name + "("));
                checks.holds("README.md says what " + name + " is for", readme.contains("`" + name + "("));
            }
        }
    }

    private void checkAnswers(String example) throws IOException {
        boolean compiles = compiles(example);
        checks.holds("the example compiles", compiles);
        if (!compiles) {
            return;
        }
        List<String> calls = new ArrayList<>();
        List<String> answers = new ArrayList<>();
        for (String line : example.split("\n")) {
            Matcher printing = PRINTING.matcher(line.trim());
            boolean namesAnswer = printing.matches();
            if (namesAnswer) {
                calls.add(printing.group(1));
                answers.add(printing.group(2));
            }
            checks.holds("an answer is named behind " + line.trim(), namesAnswer || !line.trim().startsWith("print("));
        }
        List<String> printed = printed();
        for (int k = 0; k < calls.size(); k++) {
            checks.same("the example's " + calls.get(k), k < printed.size() ? printed.get(k) : "nothing", answers.get(k));
        }
        checks.same("the number of lines that the example prints", printed.size(), calls.size());
    }

    private boolean compiles(String example) throws IOException {
        Path file = folder.resolve("Example.java");
        Files.writeString(file, example);
        String[] arguments = {
            "--release", "17", "-encoding", "UTF-8", "-Xlint:all", "-Werror", "-d", folder.toString(), source.toString(), file.toString(),
        };
        return ToolProvider.getSystemJavaCompiler().run(null, System.out, System.out, arguments) == 0;
    }

    /** The lines that the compiled example prints. */
    private List<String> printed() throws IOException {
        ByteArrayOutputStream bytes = new ByteArrayOutputStream();
        PrintStream usual = System.out;
        System.setOut(new PrintStream(bytes, true, StandardCharsets.UTF_8));
        Object end;
        try {
            end = runExample();
        } finally {
            System.setOut(usual);
        }
        checks.same("the run of the example", end, "one to its end");
        return bytes.toString(StandardCharsets.UTF_8).lines().toList();
    }

    /** Runs the example with the class that it was compiled with; what is answered tells how it ended. */
    private Object runExample() throws IOException {
        URL[] places = {folder.toUri().toURL()};
        try (URLClassLoader loader = new URLClassLoader(places, ClassLoader.getPlatformClassLoader())) {
            Method main = loader.loadClass("Example").getMethod("main", String[].class);
            main.invoke(null, (Object) new String[0]);
            return "one to its end";
        } catch (InvocationTargetException e) {
            return e.getCause();
        } catch (ReflectiveOperationException e) {
            return e;
        }
    }
}
