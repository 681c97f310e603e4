import java.io.IOException;
import java.lang.reflect.Method;
import java.lang.reflect.Modifier;
import java.net.URL;
import java.net.URLClassLoader;
import java.nio.file.Files;
import java.nio.file.Path;
import java.util.ArrayList;
import java.util.HashMap;
import java.util.List;
import java.util.Map;
import java.util.Set;
import java.util.TreeSet;
import java.util.function.BiConsumer;
import java.util.function.IntSupplier;
import java.util.regex.Matcher;
import java.util.regex.Pattern;
import javax.tools.ToolProvider;

/**
 * Makes the calls of README.md and compares the answers that stand behind them. Its Java is
 * compiled as it stands there, but that each call outside of loops is handed to the test.
 */
public final class ReadmeTest {
    private static final Path README = Path.of("README.md");
    private static final String BEGIN = "```java";
    private static final String END = "```";

    private static final Pattern CALL =
            Pattern.compile("(codes\\.(\\w+)\\([^()]*\\));(?: *// (.*))?");
    private static final Pattern ANSWER = Pattern.compile("(-?\\d+)(?::.*)?");
    private static final Pattern THROWN = Pattern.compile("throws (\\w+)(?::.*)?");

    private final Map<String, Method> face = new HashMap<>();
    private final Map<Integer, String> calls = new HashMap<>();
    private final Map<Integer, String> answers = new HashMap<>();
    private final Set<String> shown = new TreeSet<>();
    private final Set<Integer> made = new TreeSet<>();
    private int blocks;

    public static void main(String[] args) throws Exception {
        new ReadmeTest().run();
        Check.end();
    }

    private void run() throws Exception {
        Set<String> wanted = new TreeSet<>();
        for (Method method : LearnedCodes.class.getDeclaredMethods()) {
            if (Modifier.isPublic(method.getModifiers())) {
                face.put(method.getName(), method);
                wanted.add(method.getName());
                for (Class<?> thrown : method.getExceptionTypes()) {
                    wanted.add(method.getName() + " throws." + thrown.getSimpleName());
                }
            }
        }
        String program = program(Files.readAllLines(README));
        Check.due("README.md: calls, and what they throw", shown, wanted);
        make(program);
        Check.due("README.md: lines of calls that were made", made, new TreeSet<>(calls.keySet()));
    }

    /** The blocks of the text as a class with a method for each. */
    private String program(List<String> lines) {
        StringBuilder program = new StringBuilder("public final class ReadmeCalls {\n");
        boolean isJava = false;
        for (int i = 0; i < lines.size(); i++) {
            String line = lines.get(i);
            if (line.equals(BEGIN)) {
                isJava = true;
                program.append("public static void block").append(blocks).append("(java.util.function"
                        + ".BiConsumer<Integer, java.util.function.IntSupplier> due) {\n");
                blocks++;
            } else if (isJava) {
                isJava = !line.equals(END);
                program.append(isJava ? statement(i + 1, line) : "}").append('\n');
            }
        }
        return program.append("}\n").toString();
    }

    private String statement(int number, String line) {
        Matcher matcher = CALL.matcher(line);
        if (!matcher.matches()) {
            Check.due("README.md, line " + number + " has a call that is not compared: " + line,
                    line.startsWith("codes."), false);
            return line;
        }
        String call = matcher.group(1);
        String name = matcher.group(2);
        boolean answers = face.containsKey(name) && face.get(name).getReturnType() == int.class;
        String told = matcher.group(3) == null ? "" : matcher.group(3);
        calls.put(number, call);
        expect(number, name, told, answers);
        return "due.accept(" + number + ", () -> "
                + (answers ? call : "{ " + call + "; return 0; }") + ");";
    }

    private void expect(int number, String name, String told, boolean isAnswering) {
        Matcher thrown = THROWN.matcher(told);
        Matcher answer = ANSWER.matcher(told);
        if (thrown.matches()) {
            answers.put(number, "throws." + thrown.group(1));
            shown.add(name + " throws." + thrown.group(1));
        } else if (!isAnswering) {
            answers.put(number, "0");
            shown.add(name);
        } else {
            boolean isThere = answer.matches();
            Check.due("README.md, line " + number + " has an answer", isThere, true);
            answers.put(number, isThere ? answer.group(1) : "no answer");
            shown.add(name);
        }
    }

    private void make(String program) throws Exception {
        Path directory = Files.createTempDirectory("readme");
        try {
            Path file = directory.resolve("ReadmeCalls.java");
            Files.writeString(file, program);
            int failed = ToolProvider.getSystemJavaCompiler().run(null, null, null, "-cp",
                    System.getProperty("java.class.path"), "-d", directory.toString(),
                    file.toString());
            Check.due("README.md: javac of its calls", failed, 0);
            if (failed == 0) {
                makeCompiled(directory);
            }
        } finally {
            delete(directory);
        }
    }

    private void makeCompiled(Path directory) throws Exception {
        BiConsumer<Integer, IntSupplier> due = (number, call) -> {
            made.add(number);
            Check.due("README.md, line " + number + ": " + calls.get(number),
                    Check.outcome(call::getAsInt), answers.get(number));
        };
        URL[] places = {directory.toUri().toURL()};
        try (URLClassLoader loader = new URLClassLoader(places)) {
            Class<?> compiled = loader.loadClass("ReadmeCalls");
            for (int block = 0; block < blocks; block++) {
                compiled.getMethod("block" + block, BiConsumer.class).invoke(null, due);
            }
        }
        Check.due("README.md has blocks of calls", blocks > 0, true);
    }

    private static void delete(Path directory) throws IOException {
        List<Path> paths;
        try (var found = Files.walk(directory)) {
            paths = new ArrayList<>(found.toList());
        }
        for (int i = paths.size() - 1; i >= 0; i--) {
            Files.delete(paths.get(i));
        }
    }
}
