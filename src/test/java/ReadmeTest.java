import java.io.IOException;
import java.lang.reflect.Method;
import java.lang.reflect.Modifier;
import java.net.URL;
import java.net.URLClassLoader;
import java.nio.file.Files;
import java.nio.file.Path;
import java.util.ArrayList;
import java.util.List;
import java.util.regex.Matcher;
import java.util.regex.Pattern;
import java.util.stream.Collectors;
import java.util.stream.Stream;
import javax.tools.ToolProvider;

/** README.md: the calls that it shows are compiled and made, and answer as it says. */
public final class ReadmeTest {
    private static final Check CHECK = new Check();
    private static final Pattern BLOCK = Pattern.compile("(?s)```java\n(.*?)```");
    private static final Pattern CALL = Pattern.compile("errands\\.(\\w+)\\(.*");
    private static final Pattern ANSWERED =
        Pattern.compile("(errands\\.\\w+\\([^;]*\\));\\s*// (-?\\d+|NONE|FULL|UNKNOWN|OUT_OF_RANGE)(:.*)?");

    public static void main(String[] args) throws Exception {
        Path page = Path.of(args.length > 2 ? args[2] : "README.md");
        String text = Files.readString(page);
        List<String> lines = shown(text);
        answers(lines);
        isSo("names the command that runs all tests", text.contains("\n    bash .ci/run\n"));
        isSo("the command is there", Files.isExecutable(page.resolveSibling(".ci/run")));
        faceIsShown(String.join("\n", lines));
        testsAreNamed(text, page.resolveSibling("src/test/java"));
        CHECK.end();
    }

    private static void isSo(String what, boolean so) {
        CHECK.due("README.md: " + what, 1, so ? 1 : 0);
    }

    private static List<String> shown(String text) {
        List<String> lines = new ArrayList<>();
        Matcher blocks = BLOCK.matcher(text);
        while (blocks.find()) {
            blocks.group(1).lines().forEach(lines::add);
        }
        return lines;
    }

    /** A call that begins a line has its answer behind it; one within a loop has none. */
    private static void answers(List<String> lines) throws Exception {
        StringBuilder body = new StringBuilder();
        int answered = 0;
        for (String line : lines) {
            Matcher matcher = ANSWERED.matcher(line);
            boolean hasAnswer = matcher.matches();
            isSo("an answer behind " + line, hasAnswer || !CALL.matcher(line).matches());
            body.append(hasAnswer ? compared(matcher) : line).append('\n');
            answered += hasAnswer ? 1 : 0;
        }
        isSo("answers are shown", answered > 0);
        CHECK.due("README.md: calls that answer otherwise", 0, run(body.toString()));
    }

    private static String compared(Matcher matcher) {
        String want = matcher.group(2);
        String due = want.matches("[A-Z_]+") ? "CoinErrands." + want : want;
        return "wrong += differs(\"" + matcher.group(1) + "\", " + due + ", " + matcher.group(1) + ");";
    }

    private static int run(String body) throws Exception {
        String source = "public final class Shown {\n"
            + "static int differs(String call, int want, int got) {\n"
            + "if (want != got) { System.out.println(\"README.md: \" + call + \" answered \" + got + \", shown is \" + want); }\n"
            + "return want == got ? 0 : 1; }\n"
            + "public static int wrong() {\nint wrong = 0;\n" + body + "return wrong;\n}\n}\n";
        Path out = Files.createTempDirectory("readme");
        try {
            Path file = Files.writeString(out.resolve("Shown.java"), source);
            int code = ToolProvider.getSystemJavaCompiler().run(null, null, null,
                "-cp", System.getProperty("java.class.path"), "-d", out.toString(), file.toString());
            CHECK.due("README.md: compiling its calls", 0, code);
            return code == 0 ? call(out) : -1;
        } finally {
            remove(out);
        }
    }

    private static int call(Path out) throws Exception {
        try (URLClassLoader loader = new URLClassLoader(new URL[] {out.toUri().toURL()})) {
            Method wrong = loader.loadClass("Shown").getMethod("wrong");
            return (Integer) wrong.invoke(null);
        }
    }

    private static void remove(Path out) throws IOException {
        try (Stream<Path> files = Files.list(out)) {
            for (Path file : files.collect(Collectors.toList())) {
                Files.delete(file);
            }
        }
        Files.delete(out);
    }

    private static void faceIsShown(String calls) {
        for (Method method : CoinErrands.class.getDeclaredMethods()) {
            boolean open = Modifier.isPublic(method.getModifiers());
            isSo("shows " + method.getName(), !open || calls.contains("errands." + method.getName() + "("));
        }
    }

    private static void testsAreNamed(String text, Path tests) throws IOException {
        try (Stream<Path> files = Files.list(tests)) {
            for (Path file : files.collect(Collectors.toList())) {
                String name = file.getFileName().toString().replace(".java", "");
                isSo("names " + name, !name.endsWith("Test") || text.contains("| " + name + " |"));
            }
        }
        Matcher named = Pattern.compile("(?m)^\\| (\\w+Test) \\|").matcher(text);
        while (named.find()) {
            isSo("there is " + named.group(1), Files.exists(tests.resolve(named.group(1) + ".java")));
        }
    }
}
