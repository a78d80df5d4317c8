import java.io.IOException;
import java.lang.reflect.Method;
import java.lang.reflect.Modifier;
import java.nio.file.Files;
import java.nio.file.Path;
import java.util.regex.Matcher;
import java.util.regex.Pattern;

/** README.md tells the truth: its example answers what stands behind the calls, and it names every method and test. */
final class ReadmeTest {
    private static final Path README = Path.of("README.md");
    private static final Pattern CALL = Pattern.compile("(?m)^x\\.(\\w+)\\((.*)\\);\\s+// ([^:\n]+)");

    private ReadmeTest() {
    }

    static void run(Check check) throws ReflectiveOperationException, IOException {
        if (!Files.isReadable(README)) {
            check.that("there is no README.md", false);
            return;
        }
        String text = Files.readString(README);
        example(check, text);
        names(check, text);
        files(check, text);
    }

    private static void example(Check check, String text) throws ReflectiveOperationException {
        AffineRanges x = new AffineRanges();
        int calls = 0;
        for (Matcher matcher = CALL.matcher(text); matcher.find(); calls++) {
            String[] words = matcher.group(2).isEmpty() ? new String[0] : matcher.group(2).split(", ");
            Object[] values = new Object[words.length];
            for (int i = 0; i < words.length; i++) values[i] = (int) valueOf(words[i]);
            long got = ((Number) methodOf(matcher.group(1)).invoke(x, values)).longValue();
            check.due(matcher.group().replaceAll("\\s+//.*", ""), got, valueOf(matcher.group(3)));
        }
        check.that("the example has calls", calls > 0);
        check.due("lines of the example that are calls", calls, text.lines().filter(line -> line.startsWith("x.")).count());
    }

    private static Method methodOf(String name) {
        for (Method method : AffineRanges.class.getDeclaredMethods()) {
            if (method.getName().equals(name)) return method;
        }
        throw new IllegalStateException("README.md calls " + name);
    }

    /** The value of a number, of a character, of a constant, or of a sum of these. */
    private static long valueOf(String text) throws ReflectiveOperationException {
        long sum = 0;
        for (String word : text.strip().split(" \\+ ")) {
            if (word.startsWith("'")) sum += word.charAt(1);
            else if (word.matches("-?\\d+")) sum += Long.parseLong(word);
            else sum += ((Number) AffineRanges.class.getField(word.replace("AffineRanges.", "")).get(null)).longValue();
        }
        return sum;
    }

    private static void names(Check check, String text) {
        for (Method method : AffineRanges.class.getDeclaredMethods()) {
            if (!Modifier.isPublic(method.getModifiers())) continue;
            check.that("README.md does not name " + method.getName(), text.contains("`" + method.getName() + "`"));
        }
    }

    /** Each test that the page names is there. */
    private static void files(Check check, String text) {
        for (Matcher matcher = Pattern.compile("`(\\w+Test|Model|Says|Twins|Forms|AllTests)`").matcher(text); matcher.find();) {
            check.that("there is no " + matcher.group(1), Files.isReadable(Path.of("src/test/java", matcher.group(1) + ".java")));
        }
    }
}
