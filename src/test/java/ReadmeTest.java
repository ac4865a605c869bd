import java.io.IOException;
import java.lang.reflect.InvocationTargetException;
import java.lang.reflect.Method;
import java.net.URL;
import java.net.URLClassLoader;
import java.nio.file.Files;
import java.nio.file.Path;
import java.util.ArrayList;
import java.util.List;
import java.util.TreeSet;
import java.util.regex.Matcher;
import java.util.regex.Pattern;
import javax.tools.ToolProvider;

/** README.md: its example answers as it is written there, its command is there, and its table names each test. */
public final class ReadmeTest {
    private static final Path README = Path.of("README.md");
    private static final Path TESTS = Path.of("src/test/java");
    private static final Path BUILD = Path.of("build/readme");
    private static final Pattern ANSWER = Pattern.compile("\\s*(x\\.\\w+\\(.*\\)); +// (-?\\d+), .+");
    private static final String EXAMPLE = "ReadmeExample";

    private static final Due DUE = new Due("ReadmeTest");

    public static void main(String[] args) throws Exception {
        String readme = Files.readString(README);
        exampleAnswersAsItIsWritten(readme);
        commandIsThere(readme);
        tableNamesEachTest(readme);
        DUE.finish();
    }

    private static String block(String readme, String language) {
        Matcher matcher = Pattern.compile("```" + language + "\n(.*?)```", Pattern.DOTALL).matcher(readme);
        return matcher.find() ? matcher.group(1) : "";
    }

    /** Each line with an answer behind it becomes a part of a list; all others stand as they are. */
    private static void exampleAnswersAsItIsWritten(String readme) throws Exception {
        DUE.promise("the example");
        List<String> calls = new ArrayList<>();
        List<Integer> wants = new ArrayList<>();
        StringBuilder source = new StringBuilder();
        source.append("public final class " + EXAMPLE + " {\n");
        source.append("    public static java.util.List<Integer> answers() {\n");
        source.append("        java.util.List<Integer> answers = new java.util.ArrayList<>();\n");
        for (String line : block(readme, "java").split("\n")) {
            Matcher matcher = ANSWER.matcher(line);
            if (matcher.matches()) {
                calls.add(matcher.group(1));
                wants.add(Integer.parseInt(matcher.group(2)));
                source.append("answers.add(" + matcher.group(1) + ");\n");
            } else {
                source.append(line + "\n");
            }
        }
        source.append("        return answers;\n    }\n}\n");
        DUE.holds("answers are found", calls.size() > 5);
        List<Integer> answers = run(source.toString());
        DUE.is("answers", answers.size(), calls.size());
        for (int i = 0; i < answers.size() && i < calls.size(); i++) {
            DUE.is(calls.get(i), answers.get(i), wants.get(i));
        }
    }

    private static List<Integer> run(String source) throws Exception {
        Files.createDirectories(BUILD);
        Path file = BUILD.resolve(EXAMPLE + ".java");
        Files.writeString(file, source);
        int code = ToolProvider.getSystemJavaCompiler().run(null, null, null, "--release", "17", "-cp",
            System.getProperty("java.class.path"), "-d", BUILD.toString(), file.toString());
        DUE.is("the compiler", code, 0);
        List<Integer> answers = new ArrayList<>();
        if (code == 0) {
            addAnswers(answers);
        }
        return answers;
    }

    private static void addAnswers(List<Integer> answers) throws Exception {
        URL[] places = {BUILD.toUri().toURL()};
        try (URLClassLoader loader = new URLClassLoader(places, ReadmeTest.class.getClassLoader())) {
            Method method = loader.loadClass(EXAMPLE).getMethod("answers");
            for (Object answer : (List<?>) method.invoke(null)) {
                answers.add((Integer) answer);
            }
        } catch (InvocationTargetException thrown) {
            DUE.holds("no call throws, but there was " + thrown.getCause(), false);
        }
    }

    private static void commandIsThere(String readme) throws IOException {
        DUE.promise("the command");
        DUE.holds("the command", block(readme, "sh").equals("bash .ci/run\n"));
        DUE.holds("the script", Files.isExecutable(Path.of(".ci/run")));
        String script = Files.readString(Path.of(".ci/run"));
        DUE.holds("every test of the project", script.contains("src/test/java/*Test.java"));
        DUE.holds("every test that is shared", script.contains("shared=../shared/tests\n")
            && script.contains("\"$shared\"/*.java"));
    }

    private static void tableNamesEachTest(String readme) throws IOException {
        DUE.promise("the table of tests");
        TreeSet<String> named = new TreeSet<>();
        Matcher matcher = Pattern.compile("(?m)^\\| (\\w+Test) \\|").matcher(readme);
        while (matcher.find()) {
            named.add(matcher.group(1));
        }
        TreeSet<String> there = new TreeSet<>();
        try (java.util.stream.Stream<Path> files = Files.list(TESTS)) {
            files.map(file -> file.getFileName().toString()).filter(name -> name.endsWith("Test.java"))
                .forEach(name -> there.add(name.replace(".java", "")));
        }
        DUE.holds(named + " are those that are there: " + there, named.equals(there));
    }
}
