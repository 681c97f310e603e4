import java.io.IOException;
import java.nio.file.Files;
import java.nio.file.Path;
import java.util.List;
import java.util.regex.Matcher;
import java.util.regex.Pattern;

/** The rules of LANGUAGE.md that can be seen in the text; it is run where the project stands. */
public final class LanguageTest {
    private static final Path SOURCE = Path.of("src/main/java/LearnedCodes.java");

    private static final List<String> FORBIDDEN = List.of("\\bimport\\b", "\\bpackage\\b", "->",
            "::", "\\bfinally\\b", "\\btry\\b", "\\bsynchronized\\b", "\\bassert\\b",
            "\\bstatic \\{",
            "\\bprotected\\b", "\\bThread\\b", "\\bRandom\\b", "\\bHash\\w*", "\\bvar\\b",
            "Exact\\(", "currentTimeMillis", "nanoTime", "while \\(true\\)", "for \\(;;\\)");

    private static final String FACE_NAMES = "open|attribute|text|close|clear|written|keep|push|bit"
            + "|flip|cut|read|taken|event|again";

    public static void main(String[] args) throws IOException {
        String source = Files.readString(SOURCE);
        String code = source.replaceAll("(?s)/\\*.*?\\*/", "").replaceAll("//.*", "")
                .replaceAll("\"[^\"]*\"", "\"\"");
        for (String forbidden : FORBIDDEN) {
            Check.due(forbidden + " is there", count(code, forbidden), 0);
        }
        Check.due("at most twelve classes", count(code, "\\bclass \\w+") <= 12, true);
        Check.due("throw statements of the kinds that may be thrown",
                count(code, "\\bthrow new (IllegalState|IllegalArgument|IndexOutOfBounds"
                        + "|UnsupportedOperation)(Exception)\\("), count(code, "\\bthrow\\b"));
        Check.due("statics that are not final",
                count(code, "\\bstatic (?!final)\\w+ \\w+ ?[=;]"), 0);
        Check.due("methods inside with names of the face",
                count(code, "(?m)^ ++(?!public )[\\w\\[\\] ]*\\b(int|void|boolean) (" + FACE_NAMES
                        + ")\\("), 0);
        shortMethods(code);
        Check.end();
    }

    private static int count(String code, String pattern) {
        Matcher matcher = Pattern.compile(pattern).matcher(code);
        int count = 0;
        while (matcher.find()) {
            count++;
        }
        return count;
    }

    private static void shortMethods(String code) {
        Matcher matcher = Pattern.compile("(?ms)^( +)(?!switch|while|for|if)[\\w\\[\\]][^;={}]*\\)"
                + "( throws [\\w,\\s]+)?\\s*\\{\\n(.*?)^\\1\\}").matcher(code);
        int methods = 0;
        while (matcher.find()) {
            methods++;
            int lines = count(matcher.group(), "\\n");
            String name = matcher.group().trim().split("\\n")[0];
            Check.due("lines of " + name + " are few", lines <= 60, true);
        }
        Check.due("methods are found", methods > 60, true);
    }
}
