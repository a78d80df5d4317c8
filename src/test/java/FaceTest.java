import java.lang.reflect.Constructor;
import java.lang.reflect.Field;
import java.lang.reflect.Member;
import java.lang.reflect.Method;
import java.lang.reflect.Modifier;
import java.util.ArrayList;
import java.util.Arrays;
import java.util.List;
import java.util.Set;
import java.util.TreeSet;

/** The class has the document's face and no other. */
final class FaceTest {
    private static final String[] METHODS = {
        "int setDomain(int,int,int)", "int domain(int,int)", "int setSymbols(int)", "int say(int)", "int wipe()", "int fault()", "int load(int)",
        "int step(int,int,int)", "int inputs(int)", "int reason(int)", "long bound(int,int,int)", "long part(int,int)", "long trace(int,int,int)",
        "int dominant(int)", "long gain(int)", "long sample(int,int,int)", "int compare(int,int)", "int prove(int,int,int)", "long proof(int)",
        "long tighten(int,int,int)", "int roots(int,int,int)", "int count(int)", "int save(int)", "int restore(int)",
    };
    private static final String[] CONSTANTS = {
        "int NO_SUCH -1", "int BAD_VALUE -2", "int BAD_TEXT -3", "int TOO_MANY -4", "int NOT_POSSIBLE -5", "int NONE -6", "long GONE -1000000000000000000",
        "int ZERO 1", "int NEGATIVE 2", "int LARGE 3", "int NUMBER 0", "int INPUT 1", "int ADD 5", "int SUBTRACT 6", "int NEGATE 7", "int COPY 8",
        "int MULTIPLY 9", "int SQUARE 10", "int DIVIDE 11", "int ABSOLUTE 12", "int ROOT 13", "int LEAST 14", "int GREATEST 15",
        "int AFFINE 0", "int PLAIN 1", "int BEST 2", "int PROVED 1", "int REFUTED 2", "int OPEN 3",
    };

    private FaceTest() {
    }

    static void run(Check check) throws IllegalAccessException {
        check.that("the class is public and final", Modifier.isPublic(AffineRanges.class.getModifiers()) && Modifier.isFinal(AffineRanges.class.getModifiers()));
        methods(check);
        constants(check);
        constructors(check);
        classesInside(check);
    }

    private static void methods(Check check) {
        List<String> seen = new ArrayList<>();
        Set<String> open = new TreeSet<>();
        for (Method method : AffineRanges.class.getDeclaredMethods()) {
            if (Modifier.isPrivate(method.getModifiers()) || method.isSynthetic()) continue;
            List<String> types = new ArrayList<>();
            for (Class<?> type : method.getParameterTypes()) types.add(type.getName());
            seen.add(method.getReturnType() + " " + method.getName() + "(" + String.join(",", types) + ")");
            open.add(method.getName());
            check.that(method.getName() + " is public and of the object", Modifier.isPublic(method.getModifiers()) && !Modifier.isStatic(method.getModifiers()));
        }
        same(check, "methods", seen, METHODS);
        for (Class<?> inside : AffineRanges.class.getDeclaredClasses()) namesOf(check, inside, open);
        namesOf(check, AffineRanges.class, open);
    }

    private static void namesOf(Check check, Class<?> type, Set<String> open) {
        for (Method method : type.getDeclaredMethods()) {
            boolean clash = Modifier.isPrivate(method.getModifiers()) && open.contains(method.getName());
            check.that(type.getName() + "." + method.getName() + " bears the name of a public method", !clash);
        }
    }

    private static void constants(Check check) throws IllegalAccessException {
        List<String> seen = new ArrayList<>();
        for (Field field : AffineRanges.class.getDeclaredFields()) {
            if (Modifier.isPrivate(field.getModifiers())) continue;
            boolean constant = Modifier.isPublic(field.getModifiers()) && Modifier.isStatic(field.getModifiers()) && Modifier.isFinal(field.getModifiers());
            check.that(field.getName() + " is a public constant", constant);
            seen.add(field.getType() + " " + field.getName() + " " + field.get(null));
        }
        same(check, "constants", seen, CONSTANTS);
    }

    private static void constructors(Check check) {
        Constructor<?>[] all = AffineRanges.class.getDeclaredConstructors();
        check.due("constructors", all.length, 1);
        check.that("the constructor is public and takes nothing", Modifier.isPublic(all[0].getModifiers()) && all[0].getParameterCount() == 0);
    }

    private static void classesInside(Check check) {
        Class<?>[] all = AffineRanges.class.getDeclaredClasses();
        check.that("at most some twelve classes", all.length <= 14);
        for (Class<?> inside : all) {
            int modifiers = inside.getModifiers();
            check.that(inside.getName() + " is static", Modifier.isStatic(modifiers));
            check.that(inside.getName() + " is private or package-visible", !Modifier.isPublic(modifiers) && !Modifier.isProtected(modifiers));
            fields(check, inside);
        }
        fields(check, AffineRanges.class);
    }

    private static void fields(Check check, Class<?> type) {
        int own = 0;
        for (Field field : type.getDeclaredFields()) {
            boolean fixed = Modifier.isStatic(field.getModifiers());
            if (fixed) check.that(type.getName() + "." + field.getName() + " is final", isFinal(field));
            else own++;
        }
        check.that(type.getName() + " has at most some twenty fields", own <= 24);
    }

    private static boolean isFinal(Member member) {
        return Modifier.isFinal(member.getModifiers());
    }

    private static void same(Check check, String what, List<String> seen, String[] want) {
        Set<String> missing = new TreeSet<>(Arrays.asList(want));
        missing.removeAll(seen);
        Set<String> more = new TreeSet<>(seen);
        more.removeAll(Arrays.asList(want));
        check.that("missing " + what + " " + missing, missing.isEmpty());
        check.that("other " + what + " " + more, more.isEmpty());
    }
}
