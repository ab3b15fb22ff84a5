import java.io.IOException;
import java.nio.file.Files;
import java.nio.file.Path;
import java.util.regex.Matcher;
import java.util.regex.Pattern;

/** The rules of LANGUAGE.md that can be seen from the text of the program alone; run from the project's folder. */
public final class LanguageTest {
    private static final String[] RULED_OUT = {
        "\\b(throw|throws|try|catch|finally|synchronized|assert|package|import|protected|native|volatile|transient)\\b",
        "\\b(System|Object|Class|Thread|Runtime|Random|String\\.format|toString|hashCode|Optional|Stream|Map|Set)\\b",
        "->", "::", "\\bstatic\\s*\\{", "while\\s*\\(\\s*true", "for\\s*\\(\\s*;", "\\bExact\\b", "@"};

    private LanguageTest() {
    }

    public static void main(String[] args) throws IOException {
        String text = Files.readString(Path.of("src/main/java/HedgeWays.java"));
        String code = text.replaceAll("(?s)/\\*.*?\\*/", "").replaceAll("//[^\n]*", "");
        for (String rule : RULED_OUT) {
            Matcher m = Pattern.compile(rule).matcher(code);
            Checks.due("ruled out: " + rule, m.find() ? m.group() : "", "");
        }
        Checks.due("signs over 127", text.chars().filter(c -> c > 126).count(), 0);
        methods(code);
        Checks.end("LanguageTest");
    }

    /** How long methods are and how many parameters they have. */
    private static void methods(String code) {
        Matcher m = Pattern.compile("(?m)^( +)[A-Za-z\\[\\] ]*\\b(\\w+)\\(([^()]*)\\) \\{$").matcher(code);
        int count = 0;
        while (m.find()) {
            int end = code.indexOf("\n" + m.group(1) + "}", m.start());
            long lines = code.substring(m.start(), end).lines().count();
            Checks.due("lines of " + m.group(2) + " over 40", lines > 40 ? lines : 0, 0);
            Checks.due("parameters of " + m.group(2), m.group(3).split(",").length <= 7 ? 0 : 1, 0);
            count++;
        }
        Checks.due("methods were found", count > 80 ? 1 : 0, 1);
    }
}
