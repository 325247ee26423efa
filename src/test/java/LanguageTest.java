import java.io.IOException;
import java.lang.reflect.Constructor;
import java.lang.reflect.Executable;
import java.lang.reflect.Field;
import java.lang.reflect.Method;
import java.lang.reflect.Modifier;
import java.nio.file.Files;
import java.nio.file.Path;
import java.util.ArrayList;
import java.util.HashSet;
import java.util.List;
import java.util.Set;
import java.util.regex.Matcher;
import java.util.regex.Pattern;

/** The rules of LANGUAGE.md that a test can see: from the class as it is loaded, or from its file. */
public final class LanguageTest {
    private static final Path FILE = Path.of("src", "main", "java", "LabelScript.java");
    private static final List<Class<?>> CLASSES = allClasses();

    public static void main(String[] args) throws IOException {
        String code = withoutTextsAndComments(Files.readString(FILE));
        classesInside();
        namesOfPrivateMethods();
        words(code);
        library(code);
        staticFields();
        exceptions(code);
        sizes();
        lengths(code);
        Checks.end();
    }

    private static List<Class<?>> allClasses() {
        List<Class<?>> all = new ArrayList<>();
        all.add(LabelScript.class);
        for (int i = 0; i < all.size(); i++) {
            all.addAll(List.of(all.get(i).getDeclaredClasses()));
        }
        return all;
    }

    private static void classesInside() {
        Checks.sentence("LANGUAGE.md, rule 1", "the classes inside it, which are private or package-visible and static");
        for (Class<?> inside : CLASSES.subList(1, CLASSES.size())) {
            int seen = inside.getModifiers() & (Modifier.PUBLIC | Modifier.PROTECTED | Modifier.STATIC);
            Checks.due(inside.getName() + " is", Modifier.toString(seen), "static");
        }
    }

    private static void namesOfPrivateMethods() {
        Checks.sentence("LANGUAGE.md, rule 1", "No private method bears the name of a public one");
        Set<String> face = new HashSet<>();
        for (Method method : LabelScript.class.getMethods()) {
            if (method.getDeclaringClass() == LabelScript.class) {
                face.add(method.getName());
            }
        }
        for (Class<?> one : CLASSES) {
            for (Method method : one.getDeclaredMethods()) {
                boolean both = Modifier.isPrivate(method.getModifiers()) && face.contains(method.getName());
                Checks.due(method + " has a name of the face", both ? 1 : 0, 0);
            }
        }
    }

    private static void words(String code) {
        Checks.sentence("LANGUAGE.md", "the part of it that these rules leave");
        String none = "\\b(package|import|catch|finally|synchronized|assert|native|volatile|transient|var|Object"
            + "|double|float|Thread|Random|hashCode|toString|\\w+Exact)\\b|->|::|@";
        Matcher found = Pattern.compile(none).matcher(code);
        Checks.due("a word that the rules leave out, or that the class has no need of", found.find() ? found.group() : "",
            "");
    }

    private static void library(String code) {
        Checks.sentence("LANGUAGE.md, rule 4", "The library: only what stands here");
        Set<String> listed = Set.of("Math.max", "Math.min", "Math.floorMod", "System.arraycopy");
        Matcher used = Pattern.compile("\\b(Math|System|Arrays|Integer|Long|List|Character|Byte)\\.\\w+").matcher(code);
        while (used.find()) {
            Checks.due(used.group() + " is listed", listed.contains(used.group()) ? 1 : 0, 1);
        }
    }

    private static void staticFields() {
        Checks.sentence("LANGUAGE.md, rule 5", "Static fields are final: constants of int, long, boolean, char or String,"
            + " .. arrays of int, long, char or byte");
        Set<Class<?>> types = Set.of(int.class, long.class, boolean.class, char.class, String.class, int[].class,
            long[].class, char[].class, byte[].class);
        for (Class<?> one : CLASSES) {
            for (Field field : one.getDeclaredFields()) {
                if (Modifier.isStatic(field.getModifiers())) {
                    boolean constant = Modifier.isFinal(field.getModifiers()) && types.contains(field.getType());
                    Checks.due(field + " is a constant", constant ? 1 : 0, 1);
                }
            }
        }
    }

    private static void exceptions(String code) {
        Checks.sentence("LANGUAGE.md, rule 6", "throw new E() or throw new E(\"a written text\")");
        Matcher thrown = Pattern.compile("\\bthrow\\b[^;]*;").matcher(code);
        String due = "throw new (IllegalArgumentException|IndexOutOfBoundsException)\\((\"\")?\\);";
        while (thrown.find()) {
            Checks.due(thrown.group() + " is one of the face", thrown.group().matches(due) ? 1 : 0, 1);
        }
    }

    private static void sizes() {
        Checks.sentence("LANGUAGE.md, rule 11", "at most seven parameters .. some twelve classes .. some twenty fields");
        Checks.due("more than 12 classes", Math.max(12, CLASSES.size()), 12);
        for (Class<?> one : CLASSES) {
            int fields = 0;
            for (Field field : one.getDeclaredFields()) {
                fields += Modifier.isStatic(field.getModifiers()) ? 0 : 1;
            }
            Checks.due("more than 20 fields in " + one.getName(), Math.max(20, fields), 20);
            for (Method method : one.getDeclaredMethods()) {
                atMostSeven(method);
            }
            for (Constructor<?> constructor : one.getDeclaredConstructors()) {
                atMostSeven(constructor);
            }
        }
    }

    private static void atMostSeven(Executable method) {
        Checks.due("more than 7 parameters of " + method, Math.max(7, method.getParameterCount()), 7);
    }

    private static void lengths(String code) {
        Checks.sentence("LANGUAGE.md, rule 11", "Methods stay short (some sixty lines)");
        Pattern method = Pattern.compile("^( +)(?:(?!class )[^\\n;=])*\\([^\\n;]*\\{$.*?^\\1\\}$",
            Pattern.MULTILINE | Pattern.DOTALL);
        Matcher found = method.matcher(code);
        int methods = 0;
        while (found.find()) {
            methods++;
            int lines = (int) found.group().lines().count();
            Checks.due("more than 60 lines of " + found.group().lines().findFirst().orElse(""), Math.max(60, lines), 60);
        }
        Checks.due("methods found", methods, declaredMethods());
    }

    /** All methods, and the two constructors that are written out. */
    private static int declaredMethods() {
        int count = 2;
        for (Class<?> one : CLASSES) {
            for (Method method : one.getDeclaredMethods()) {
                count += method.isSynthetic() ? 0 : 1;
            }
        }
        return count;
    }

    // What a text or a comment says is no code: a word there breaks no rule.
    private static String withoutTextsAndComments(String code) {
        String texts = code.replaceAll("\"[^\"\\n]*\"", "\"\"").replaceAll("'\\\\?[^\\n]'", "''");
        return texts.replaceAll("//[^\\n]*", "").replaceAll("(?s)/\\*.*?\\*/", "");
    }
}
