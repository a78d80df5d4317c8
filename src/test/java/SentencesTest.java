import java.io.IOException;
import java.lang.reflect.InvocationTargetException;
import java.lang.reflect.Method;
import java.nio.file.Files;
import java.nio.file.Path;
import java.util.Arrays;
import java.util.Comparator;
import java.util.regex.Matcher;
import java.util.regex.Pattern;

/** Runs the tests of single sentences: each method that bears Says, in the class that bears the promise's number. */
final class SentencesTest {
    private static final int PROMISES = 25;
    private static final Path DOCUMENT = Path.of("../shared/DOC.md");
    private static final Class<?>[] CLASSES = {
        Promise01NewObjectTest.class, Promise02SetDomainTest.class, Promise03DomainTest.class, Promise04SetSymbolsTest.class, Promise05SayTest.class,
        Promise06WipeTest.class, Promise07FaultTest.class, Promise08LoadTest.class, Promise09StepTest.class, Promise10InputsTest.class,
        Promise11ReasonTest.class, Promise12BoundTest.class, Promise13PartTest.class, Promise14TraceTest.class, Promise15DominantTest.class,
        Promise16GainTest.class, Promise17SampleTest.class, Promise18CompareTest.class, Promise19ProveTest.class, Promise20ProofTest.class,
        Promise21TightenTest.class, Promise22RootsTest.class, Promise23CountTest.class, Promise24SaveTest.class, Promise25RestoreTest.class,
    };

    private SentencesTest() {
    }

    static void run(Check check) throws IOException {
        check.due("promises with tests", CLASSES.length, PROMISES);
        String document = Files.isReadable(DOCUMENT) ? Files.readString(DOCUMENT) : null;
        if (document == null) System.out.println("Sentences: " + DOCUMENT + " is not there, so the quotations are not looked up");
        StringBuilder counts = new StringBuilder();
        for (int i = 0; i < CLASSES.length; i++) {
            int tests = 0;
            check.that(CLASSES[i].getName() + " is in its place", promiseOf(CLASSES[i]) == i + 1);
            Method[] methods = CLASSES[i].getDeclaredMethods();
            Arrays.sort(methods, Comparator.comparing(Method::getName));
            for (Method method : methods) {
                Says says = method.getAnnotation(Says.class);
                if (says == null) continue;
                tests++;
                test(check, method, says.value());
                if (document != null) quotation(check, document, method, says.value());
            }
            check.that(CLASSES[i].getName() + " has no test", tests > 0);
            counts.append(i == 0 ? "" : ", ").append(i + 1).append(": ").append(tests);
        }
        System.out.println("Sentences: tests of each promise " + counts);
    }

    private static int promiseOf(Class<?> tests) {
        Matcher matcher = Pattern.compile("Promise(\\d\\d)\\w+Test").matcher(tests.getName());
        return matcher.matches() ? Integer.parseInt(matcher.group(1)) : 0;
    }

    private static String nameOf(Method method) {
        return method.getDeclaringClass().getSimpleName().replaceAll("Test$", "") + "." + method.getName();
    }

    private static void test(Check check, Method method, String sentence) {
        Check own = new Check(nameOf(method));
        try {
            method.invoke(null, own);
        } catch (InvocationTargetException e) {
            own.that("ended with " + e.getCause(), false);
        } catch (IllegalAccessException e) {
            own.that("can not be run", false);
        }
        check.that("broken is \"" + sentence + "\", by " + nameOf(method), own.wrong() == 0);
        check.that(nameOf(method) + " tests nothing", own.right() > 0);
    }

    /** The quotation stands in the section of the promise, or before all promises. */
    private static void quotation(Check check, String document, Method method, String sentence) {
        int promise = promiseOf(method.getDeclaringClass());
        boolean stands = between(document, "\n## What it is", "\n## Promise 1:").contains(sentence)
                || between(document, "\n## Promise " + promise + ":", "\n## ").contains(sentence);
        check.that(nameOf(method) + " quotes what does not stand there: " + sentence, stands);
    }

    private static String between(String document, String from, String to) {
        int start = document.indexOf(from);
        if (start < 0) return "";
        int end = document.indexOf(to, start + 1);
        return end < 0 ? document.substring(start) : document.substring(start, end);
    }
}
