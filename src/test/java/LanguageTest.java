import java.io.IOException;
import java.nio.file.Files;
import java.nio.file.Path;
import java.util.List;
import java.util.regex.Matcher;
import java.util.regex.Pattern;

/** Those rules of ../shared/LANGUAGE.md that the text of the class shows. */
final class LanguageTest {
    private static final String[] FORBIDDEN = {
        "\\bthrow\\b", "\\bthrows\\b", "\\btry\\b", "\\bcatch\\b", "\\bfinally\\b", "\\bsynchronized\\b", "\\bassert\\b", "\\bvolatile\\b",
        "\\bpackage\\b", "\\bprotected\\b", "Exact\\s*\\(", "\\bSystem\\s*\\.\\s*(?!arraycopy)", "\\bThread\\b",
        "\\bboolean\\s+equals\\s*\\(", "\\bhashCode\\b", "\\bString\\s+toString\\b", "\\bObject\\b", "\\b(Integer|Long|Math)\\s*\\.\\s*[A-Z]", "static\\s*\\{", "while\\s*\\(\\s*true", "for\\s*\\(\\s*;\\s*;",
        "import(?! java\\.util\\.(Arrays|ArrayList|List|Iterator);)",
    };

    private LanguageTest() {
    }

    static void run(Check check, String file) throws IOException {
        String whole = Files.readString(Path.of(file));
        String code = whole.replaceAll("(?s)/\\*.*?\\*/", "").replaceAll("//[^\n]*", "");
        for (int i = 0; i < code.length(); i++) {
            char c = code.charAt(i);
            if (c > 126 || c < 32 && c != '\n') check.that("character " + (int) c + " in line " + code.substring(0, i).lines().count(), false);
        }
        for (String word : FORBIDDEN) {
            Matcher matcher = Pattern.compile(word).matcher(code);
            check.that("the class has " + word, !matcher.find());
        }
        check.that("the class has no package-visible class outside", code.split("(?m)^(public |final |abstract )*(class|interface|enum|record) ").length == 2);
        methods(check, whole.lines().toList());
    }

    /** Methods stay short, and take at most seven parameters. */
    private static void methods(Check check, List<String> lines) {
        int start = -1;
        String end = "";
        for (int i = 0; i < lines.size(); i++) {
            String line = lines.get(i);
            boolean head = line.matches("( {4}| {8})[\\w\\[\\]<> ]+\\([^;=]*\\) \\{.*") && !line.matches("\\s*(if|for|while|switch|do|else)\\b.*");
            if (head) {
                start = i;
                end = line.substring(0, line.length() - line.stripLeading().length()) + "}";
                check.that("seven parameters: " + line.strip(), line.split(",").length <= 7);
            }
            if (start >= 0 && line.equals(end)) {
                check.that("short: " + lines.get(start).strip(), i - start <= 66);
                start = -1;
            }
        }
    }
}
