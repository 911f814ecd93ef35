import java.io.IOException;
import java.io.StringWriter;
import java.net.URL;
import java.net.URLClassLoader;
import java.nio.file.DirectoryStream;
import java.nio.file.Files;
import java.nio.file.Path;
import java.util.ArrayList;
import java.util.List;
import java.util.regex.Matcher;
import java.util.regex.Pattern;
import javax.tools.JavaCompiler;
import javax.tools.ToolProvider;

/** The examples of README.md compile and answer as it says, and it leaves no call out. */
public final class ReadmeTest {
    private static final Path README = Path.of("README.md");
    private static final Path DOCUMENT = Path.of("..", "shared", "DOC.md");
    private static final Path TESTS = Path.of("src", "test", "java");
    private static final Path BUILD = Path.of("build", "readme");
    private static final Pattern JAVA_BLOCK = Pattern.compile("(?ms)^```java\n(.*?)^```$");
    private static final Pattern FACE_METHOD = Pattern.compile("public (\\w+ (\\w+)\\([^)]*\\));");
    private static final Pattern MADE = Pattern.compile("ArcGuesser x = new ArcGuesser\\(\\);");
    /** A call, and behind it a comment that begins with the number that it answers. */
    private static final Pattern CALL =
            Pattern.compile("(x\\.\\w+\\([^)]*\\));\\s*// (-?\\d+)\\b.*");
    private static final int MOST_CALLS = 512;
    private static final Checks CHECKS = new Checks();

    public static void main(String[] args) throws Exception {
        String readme = Files.readString(README);
        List<String> examples = allOf(JAVA_BLOCK, readme);
        CHECKS.part("README.md");
        CHECKS.holds("it shows an example of use", !examples.isEmpty());
        for (int i = 0; i < examples.size(); i++) {
            exampleHolds("Example" + (i + 1), examples.get(i));
        }
        everyCallIsTold(readme, String.join("\n", examples));
        refusalsAreTold(readme, String.join("\n", examples));
        testsAreTold(readme);
        CHECKS.finish();
    }

    private static List<String> allOf(Pattern pattern, String text) {
        List<String> found = new ArrayList<>();
        Matcher matcher = pattern.matcher(text);
        while (matcher.find()) {
            found.add(matcher.group(1));
        }
        return found;
    }

    private static void exampleHolds(String name, String example) throws Exception {
        CHECKS.part("README.md, " + name);
        List<String> calls = new ArrayList<>();
        List<Long> due = new ArrayList<>();
        for (String line : example.split("\n")) {
            Matcher call = CALL.matcher(line);
            if (call.matches()) {
                calls.add(call.group(1));
                due.add(Long.valueOf(call.group(2)));
            } else {
                CHECKS.holds("this line makes an object or is a call with its answer: " + line,
                        line.isBlank() || MADE.matcher(line).matches());
            }
        }
        CHECKS.holds("it has calls", !calls.isEmpty());
        CHECKS.holds("an object is used for as many calls", calls.size() <= MOST_CALLS);
        if (compiles(name, program(name, example, calls))) {
            hold(calls, due, answers(name));
        }
    }

    /** The example as README.md shows it, and once more with its answers kept. */
    private static String program(String name, String example, List<String> calls) {
        StringBuilder program = new StringBuilder("public final class ").append(name);
        program.append(" {\n    public static void asShown() {\n").append(example);
        program.append("    }\n    public static long[] answers() {\n");
        program.append("        ArcGuesser x = new ArcGuesser();\n        return new long[] {\n");
        for (String call : calls) {
            program.append("            ").append(call).append(",\n");
        }
        return program.append("        };\n    }\n}\n").toString();
    }

    private static boolean compiles(String name, String program) throws IOException {
        JavaCompiler compiler = ToolProvider.getSystemJavaCompiler();
        CHECKS.holds("this Java has a compiler", compiler != null);
        if (compiler == null) {
            return false;
        }
        Path source = BUILD.resolve(name + ".java");
        Files.createDirectories(BUILD);
        Files.writeString(source, program);
        StringWriter told = new StringWriter();
        List<String> options = List.of("-classpath", System.getProperty("java.class.path"),
                "-d", BUILD.toString());
        try (var files = compiler.getStandardFileManager(null, null, null)) {
            boolean done = compiler.getTask(told, files, null, options, null,
                    files.getJavaFileObjects(source)).call();
            CHECKS.holds("it compiles: " + told, done);
            return done;
        }
    }

    private static long[] answers(String name) throws Exception {
        URL[] built = {BUILD.toUri().toURL()};
        try (URLClassLoader loader = new URLClassLoader(built, ReadmeTest.class.getClassLoader())) {
            Class<?> example = loader.loadClass(name);
            example.getMethod("asShown").invoke(null);
            return (long[]) example.getMethod("answers").invoke(null);
        }
    }

    private static void hold(List<String> calls, List<Long> due, long[] answers) {
        CHECKS.due("how many calls", answers.length, calls.size());
        for (int i = 0; i < answers.length; i++) {
            CHECKS.due("call " + (i + 1) + ", " + calls.get(i) + ",", answers[i], due.get(i));
        }
    }

    private static void everyCallIsTold(String readme, String examples) throws IOException {
        CHECKS.part("README.md, the calls");
        Matcher method = FACE_METHOD.matcher(Files.readString(DOCUMENT));
        int methods = 0;
        while (method.find()) {
            methods++;
            CHECKS.holds(method.group(1) + " is told in its table",
                    readme.contains("\n| `" + method.group(1) + "` | "));
            CHECKS.holds(method.group(2) + " is used in an example",
                    examples.contains("x." + method.group(2) + "("));
        }
        CHECKS.due("how many methods the document's face has", methods, 19);
        CHECKS.holds("it tells how an object is made", readme.contains("`new ArcGuesser()`"));
        CHECKS.holds("it tells of THE BOARD", readme.contains("\n## THE BOARD\n"));
    }

    private static void refusalsAreTold(String readme, String examples) {
        CHECKS.part("README.md, the refusals");
        for (int refusal = -1; refusal >= -3; refusal--) {
            CHECKS.holds(refusal + " is told", readme.contains("\n- " + refusal + ": "));
            CHECKS.holds(refusal + " is shown in an example",
                    examples.contains("// " + refusal + ":"));
        }
    }

    private static void testsAreTold(String readme) throws IOException {
        CHECKS.part("README.md, the tests");
        CHECKS.holds("it tells how to run them", readme.contains("\n.ci/run\n"));
        try (DirectoryStream<Path> tests = Files.newDirectoryStream(TESTS, "*Test.java")) {
            for (Path test : tests) {
                String name = test.getFileName().toString().replace(".java", "");
                CHECKS.holds(name + " is told", readme.contains("`" + name + "`"));
            }
        }
    }
}
