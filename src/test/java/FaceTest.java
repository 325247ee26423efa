import java.lang.reflect.Constructor;
import java.lang.reflect.Field;
import java.lang.reflect.Method;
import java.lang.reflect.Modifier;
import java.util.Set;
import java.util.TreeSet;

/** The class has the face of the document and nothing else that others can see. */
public final class FaceTest {
    public static void main(String[] args) {
        Checks.sentence("The public face", "public final class LabelScript {");
        Set<String> seen = new TreeSet<>();
        for (Field field : LabelScript.class.getDeclaredFields()) {
            if (!Modifier.isPrivate(field.getModifiers())) {
                seen.add(field.toString());
            }
        }
        for (Method method : LabelScript.class.getDeclaredMethods()) {
            if (!Modifier.isPrivate(method.getModifiers())) {
                seen.add(method.toString());
            }
        }
        for (Constructor<?> constructor : LabelScript.class.getDeclaredConstructors()) {
            seen.add(constructor.toString());
        }
        Set<String> face = new TreeSet<>(Set.of(
            "public static final int LabelScript.NONE",
            "public LabelScript()",
            "public int LabelScript.write(int,long) throws java.lang.IllegalArgumentException",
            "public int LabelScript.wipe()",
            "public int LabelScript.read()",
            "public int LabelScript.fault()",
            "public int LabelScript.place()",
            "public int LabelScript.label(int,int) throws java.lang.IllegalArgumentException",
            "public int LabelScript.order(int,int) throws java.lang.IllegalArgumentException,"
                + "java.lang.IndexOutOfBoundsException",
            "public long LabelScript.data(int,int) throws java.lang.IndexOutOfBoundsException"));
        Checks.due("the face", String.join("\n", seen), String.join("\n", face));
        Checks.due("NONE", LabelScript.NONE, -1);
        Checks.due("final", Modifier.isFinal(LabelScript.class.getModifiers()) ? 1 : 0, 1);
        Checks.end();
    }
}
