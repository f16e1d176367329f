import java.io.IOException;
import java.lang.reflect.Method;
import java.lang.reflect.Modifier;
import java.net.URL;
import java.net.URLClassLoader;
import java.nio.file.Files;
import java.nio.file.Path;
import java.util.ArrayList;
import java.util.List;
import java.util.Set;
import java.util.TreeSet;
import java.util.regex.Matcher;
import java.util.regex.Pattern;
import javax.tools.JavaCompiler;
import javax.tools.ToolProvider;

/** README.md: its examples are compiled as they stand there, and each call must answer what is told behind it. */
public final class ReadmeTest {
    /** A call on a line of its own, its answer told behind it: a number, or one of the constants. */
    private static final Pattern TOLD = Pattern.compile(
        "^(int \\w+ = )?((?:x|new FellTree\\(\\))\\.\\w+\\(.*\\)); +// (-?\\d+|NONE|BAD|STATE|FULL|NO): \\S.*$");
    private static final Pattern CALL = Pattern.compile("(?:\\bx|new FellTree\\(\\))\\.(\\w+)\\(");
    private static final Path PLACE = Path.of("build", "readme");

    private final List<String> calls = new ArrayList<>();
    private final List<Long> due = new ArrayList<>();
    private final Set<String> used = new TreeSet<>();

    public static void main(String[] args) throws IOException, ReflectiveOperationException {
        String page = Files.readString(Path.of("README.md"));
        new ReadmeTest().examples(page);
        refusals(page);
        inside(page);
        tests(page);
        Due.end();
    }

    private void examples(String page) throws IOException, ReflectiveOperationException {
        Matcher block = Pattern.compile("(?s)```java\n(.*?)```").matcher(page);
        StringBuilder body = new StringBuilder();
        int blocks = 0;
        while (block.find()) {
            blocks++;
            for (String line : block.group(1).split("\n")) {
                body.append(asked(line)).append('\n');
            }
        }
        Due.is("README: examples", blocks, 2);
        for (Method method : FellTree.class.getDeclaredMethods()) {
            if (Modifier.isPublic(method.getModifiers())) {
                Due.holds("README: " + method.getName() + " is in an example", used.contains(method.getName()));
            }
        }
        long[] answers = answers(body.toString());
        Due.is("README: answers", answers.length, due.size());
        for (int i = 0; i < answers.length && i < due.size(); i++) {
            Due.is("README: " + calls.get(i), answers[i], due.get(i));
        }
    }

    /** The line of an example, so that the answer is kept; only inside a loop no answer is told. */
    private String asked(String line) {
        Matcher call = CALL.matcher(line);
        boolean isCall = call.find();
        if (isCall) {
            used.add(call.group(1));
        }
        Matcher told = TOLD.matcher(line);
        if (!told.matches()) {
            Due.holds("README: an answer is told: " + line, !isCall || line.startsWith("    "));
            return line;
        }
        return keeping(told.group(1), told.group(2), number(told.group(3)));
    }

    /** The call, its answer kept for later; what takes the answer (int oak = ) takes it still. */
    private String keeping(String taker, String call, long answer) {
        String kept = "answers[" + calls.size() + "] = " + call;
        calls.add(call);
        due.add(answer);
        return taker == null ? kept + ";" : taker + "(int) (" + kept + ");";
    }

    private static long number(String told) {
        switch (told) {
            case "NONE": return FellTree.NONE;
            case "BAD": return FellTree.BAD;
            case "STATE": return FellTree.STATE;
            case "FULL": return FellTree.FULL;
            case "NO": return FellTree.NO;
            default: return Long.parseLong(told);
        }
    }

    private long[] answers(String body) throws IOException, ReflectiveOperationException {
        Files.createDirectories(PLACE);
        Path file = PLACE.resolve("ReadmeExample.java");
        Files.writeString(file, "public final class ReadmeExample {\npublic static long[] answers() {\nlong[] answers = new long["
            + calls.size() + "];\n" + body + "return answers;\n}\n}\n");
        JavaCompiler compiler = ToolProvider.getSystemJavaCompiler();
        Due.holds("README: there is a compiler", compiler != null);
        int code = compiler == null ? 1 : compiler.run(null, null, null, "-d", PLACE.toString(),
            "-cp", System.getProperty("java.class.path"), file.toString());
        Due.is("README: the examples compile", code, 0);
        if (code != 0) {
            return new long[0];
        }
        try (URLClassLoader loader = new URLClassLoader(new URL[] {PLACE.toUri().toURL()})) {
            return (long[]) loader.loadClass("ReadmeExample").getMethod("answers").invoke(null);
        }
    }

    private static void refusals(String page) {
        String[] names = {"NONE", "BAD", "STATE", "FULL", "NO"};
        for (String name : names) {
            Due.holds("README: the number of " + name, page.contains("`" + name + "` (" + number(name) + ")"));
        }
    }

    private static void inside(String page) {
        for (Class<?> one : FellTree.class.getDeclaredClasses()) {
            Due.holds("README: what " + one.getSimpleName() + " is", page.contains("`" + one.getSimpleName() + "`"));
        }
    }

    private static void tests(String page) {
        Due.holds("README: how to run the tests", page.contains("```sh\n.ci/run\n```"));
        Due.holds("README: .ci/run can be run", Files.isExecutable(Path.of(".ci", "run")));
        Matcher alone = Pattern.compile("java -cp \\S+ (\\w+)").matcher(page);
        boolean isTold = alone.find();
        Due.holds("README: how to run one test", isTold);
        Path one = Path.of("src", "test", "java", (isTold ? alone.group(1) : "") + ".java");
        Due.holds("README: that test is there: " + one, Files.isRegularFile(one));
    }
}
