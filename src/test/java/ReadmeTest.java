import java.io.IOException;
import java.lang.reflect.Method;
import java.lang.reflect.Modifier;
import java.net.URL;
import java.net.URLClassLoader;
import java.nio.file.Files;
import java.nio.file.Path;
import java.util.ArrayList;
import java.util.List;
import java.util.concurrent.Callable;
import java.util.regex.Matcher;
import java.util.regex.Pattern;
import java.util.stream.Collectors;
import java.util.stream.Stream;
import javax.tools.JavaCompiler;
import javax.tools.ToolProvider;

/** README.md: its example answers as it says, and it names every call and every test. */
public final class ReadmeTest {
    private static final Path README = Path.of("README.md");
    private static final Path TESTS = Path.of("src/test/java");
    private static final Path MADE = Path.of("build/readme");

    // A call with what it answers behind it: a number, or the exception that it throws.
    private static final Pattern TOLD = Pattern.compile("\\s*(pages\\.\\w+\\(.*\\));\\s*// (-?\\d+(?:\\.\\d+)?|\\w+Exception)\\b.*");

    private static final Due due = new Due();

    public static void main(String[] args) throws Exception {
        List<String> lines = Files.readAllLines(README);
        everyCall(String.join("\n", lines));
        everyTest(lines);
        example(lines);
        due.end("ReadmeTest");
    }

    private static void everyCall(String text) {
        for (Method method : PlannedPages.class.getDeclaredMethods()) {
            if (Modifier.isPublic(method.getModifiers())) {
                due.is("README names " + method.getName(), text.contains("`" + method.getName() + "(") ? 1 : 0, 1);
            }
        }
        due.is("README says how to run the tests", text.contains("bash .ci/run") ? 1 : 0, 1);
    }

    private static void everyTest(List<String> lines) throws IOException {
        List<String> named = new ArrayList<>();
        for (String line : lines) {
            if (line.matches("\\| `\\w+Test` \\|.*")) {
                named.add(line.split("`")[1]);
            }
        }
        try (Stream<Path> files = Files.list(TESTS)) {
            List<String> there = files.map(file -> file.getFileName().toString())
                    .filter(name -> name.endsWith("Test.java"))
                    .map(name -> name.replace(".java", "")).collect(Collectors.toList());
            there.sort(null);
            named.sort(null);
            due.same("tests that README names", named.toString(), there.toString());
        }
    }

    private static void example(List<String> lines) throws Exception {
        JavaCompiler compiler = ToolProvider.getSystemJavaCompiler();
        if (compiler == null) {
            System.out.println("this java has no compiler: the example was not run");
            return;
        }
        Files.createDirectories(MADE);
        Path source = MADE.resolve("ReadmeExample.java");
        Files.writeString(source, program(lines));
        int failed = compiler.run(null, null, null, "-cp", System.getProperty("java.class.path"), source.toString());
        due.is("the example compiles", failed, 0);
        if (failed != 0) {
            return;
        }
        URL[] places = {MADE.toUri().toURL()};
        try (URLClassLoader loader = new URLClassLoader(places)) {
            @SuppressWarnings("unchecked")
            List<String[]> answers = ((Callable<List<String[]>>) loader.loadClass("ReadmeExample")
                    .getDeclaredConstructor().newInstance()).call();
            due.is("answers that README tells were found", answers.size() > 10 ? 1 : 0, 1);
            for (String[] answer : answers) {
                due.same("README's " + answer[0], answer[1], answer[2]);
            }
        }
    }

    /** The example as a class: each call with an answer behind it is noted with what it answers and should. */
    private static String program(List<String> lines) {
        StringBuilder text = new StringBuilder("import java.util.*;\nimport java.util.concurrent.Callable;\n");
        text.append("public final class ReadmeExample implements Callable<List<String[]>> {\n");
        text.append("  static String told(Callable<Object> call) {\n");
        text.append("    try { return String.valueOf(call.call()); }\n");
        text.append("    catch (Exception e) { return e.getClass().getSimpleName(); }\n  }\n");
        text.append("  public List<String[]> call() {\n    List<String[]> answers = new ArrayList<>();\n");
        boolean inside = false;
        for (String line : lines) {
            if (line.startsWith("```")) {
                inside = line.equals("```java");
            } else if (inside) {
                text.append(noting(line)).append('\n');
            }
        }
        return text.append("    return answers;\n  }\n}\n").toString();
    }

    private static String noting(String line) {
        Matcher told = TOLD.matcher(line);
        if (!told.matches()) {
            return line;
        }
        return "answers.add(new String[] {\"" + told.group(1) + "\", told(() -> " + told.group(1) + "), \""
                + told.group(2) + "\"});";
    }
}
