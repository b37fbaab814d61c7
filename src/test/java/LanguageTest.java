import java.io.IOException;
import java.lang.reflect.Constructor;
import java.lang.reflect.Field;
import java.lang.reflect.Method;
import java.lang.reflect.Modifier;
import java.nio.file.Files;
import java.nio.file.Path;
import java.util.HashSet;
import java.util.Set;
import java.util.TreeSet;
import java.util.regex.Matcher;
import java.util.regex.Pattern;

/** The face of the class, and those rules of LANGUAGE.md that can be seen from words. */
public final class LanguageTest {
    private static final Set<String> FACE = Set.of(
        "int add(int,int)", "int drop(int,int)", "int bound(int,int)", "int join(int)", "int exchange()",
        "int clear(int)", "int rowOf(int,int)", "int upperBit(int,int)", "int partOf(int,int,int)",
        "int sample(int,int,int)", "long lowerBits(int,int)", "int next(int,int,int)", "int below(int,int)",
        "int common(int)", "int perNumber(int)", "int bestBound(int,int)", "int gapOf(int,int,int)", "int count(int)",
        "int undo()", "int type(int)", "int clearText()", "int fault(int,int)", "int read(int)");
    private static final Set<String> CONSTANTS =
        Set.of("INVALID_ARGUMENT", "NOT_POSSIBLE", "LIMIT_REACHED", "NOT_FOUND");
    private static final String[] FORBIDDEN_WORDS = {
        "throw", "throws", "try", "catch", "finally", "synchronized", "assert", "import", "package", "double",
        "equals", "hashCode", "toString", "protected", "var", "lambda", "Float", "Double", "Random", "Thread"};

    private static final Check check = new Check();

    public static void main(String[] args) throws IOException {
        face();
        namesOfPrivateMethods();
        words(Files.readString(Path.of(args[0])));
        check.end();
    }

    private static String faceOf(Method method) {
        StringBuilder types = new StringBuilder();
        for (Class<?> type : method.getParameterTypes()) {
            types.append(types.length() == 0 ? "" : ",").append(type);
        }
        return method.getReturnType() + " " + method.getName() + "(" + types + ")";
    }

    private static void face() {
        check.about("face");
        Set<String> methods = new TreeSet<>();
        for (Method method : RisingParts.class.getDeclaredMethods()) {
            if (!Modifier.isPrivate(method.getModifiers())) {
                methods.add(faceOf(method));
                check.same(method + " is public alone", method.getModifiers(), Modifier.PUBLIC);
            }
        }
        check.same("methods", methods, new TreeSet<>(FACE));
        Set<String> constants = new TreeSet<>();
        for (Field field : RisingParts.class.getDeclaredFields()) {
            if (!Modifier.isPrivate(field.getModifiers())) {
                constants.add(field.getName());
            }
        }
        check.same("constants", constants, new TreeSet<>(CONSTANTS));
        Constructor<?>[] constructors = RisingParts.class.getDeclaredConstructors();
        check.same("constructors", constructors.length, 1);
        check.same("constructor's modifiers", constructors[0].getModifiers(), Modifier.PUBLIC);
        check.same("class", RisingParts.class.getModifiers(), Modifier.PUBLIC | Modifier.FINAL);
    }

    private static void namesOfPrivateMethods() {
        check.about("names");
        Set<String> names = new HashSet<>();
        for (String method : FACE) {
            names.add(method.substring(method.indexOf(' ') + 1, method.indexOf('(')));
        }
        for (Class<?> inside : RisingParts.class.getDeclaredClasses()) {
            check.same(inside + " is static", Modifier.isStatic(inside.getModifiers()), true);
            for (Method method : inside.getDeclaredMethods()) {
                check.same(method + " has a public name", names.contains(method.getName()), false);
            }
        }
        for (Method method : RisingParts.class.getDeclaredMethods()) {
            if (Modifier.isPrivate(method.getModifiers())) {
                check.same(method + " has a public name", names.contains(method.getName()), false);
            }
        }
    }

    private static void words(String source) {
        check.about("words");
        String code = source.replaceAll("(?s)/\\*.*?\\*/", " ").replaceAll("//[^\n]*", " ");
        for (String word : FORBIDDEN_WORDS) {
            Matcher matcher = Pattern.compile("\\b" + word + "\\b").matcher(code);
            check.same("'" + word + "' in the source", matcher.find(), false);
        }
        check.same("'->' or '::' in the source", code.contains("->") || code.contains("::"), false);
        check.same("signs beyond 127", code.chars().allMatch(sign -> sign < 128), true);
    }
}
