import java.lang.reflect.Constructor;
import java.lang.reflect.Field;
import java.lang.reflect.Method;
import java.lang.reflect.Modifier;
import java.util.TreeSet;

/** The public face: the constants, constructor and methods of the document and no others. */
public final class FaceTest {
    private static final String[] FACE = {
        "int add(int) IllegalArgumentException IllegalStateException",
        "boolean bar(int,int,boolean) IllegalArgumentException",
        "int cut(int,int) IllegalArgumentException",
        "int door() IllegalStateException",
        "boolean fits(int,int) IllegalArgumentException",
        "int heirs(int) IllegalArgumentException IllegalStateException",
        "boolean holds(int,int,int) IllegalArgumentException",
        "int key() IllegalStateException",
        "int left() IllegalStateException",
        "boolean must(int,int,boolean) IllegalArgumentException",
        "int run(int) IllegalArgumentException IllegalStateException",
        "int step(int) IllegalArgumentException",
        "int top(int) IllegalArgumentException",
        "int tries()",
        "int wrong()",
    };

    public static void main(String[] args) {
        Check check = new Check();
        int modifiers = MasterKeys.class.getModifiers();
        check.due("public final", Modifier.isPublic(modifiers) && Modifier.isFinal(modifiers), true);
        check.due("NONE", MasterKeys.NONE, -1);
        check.due("fields", fields(), "[public static final int NONE]");
        check.due("constructors", constructors(), "[public MasterKeys(int,int)]");
        check.due("methods", methods(), new TreeSet<String>(java.util.List.of(FACE)).toString());
        check.end();
    }

    private static String fields() {
        TreeSet<String> found = new TreeSet<>();
        for (Field field : MasterKeys.class.getDeclaredFields()) {
            if (!Modifier.isPrivate(field.getModifiers())) {
                found.add(Modifier.toString(field.getModifiers()) + " " + field.getType() + " " + field.getName());
            }
        }
        return found.toString();
    }

    private static String constructors() {
        TreeSet<String> found = new TreeSet<>();
        for (Constructor<?> constructor : MasterKeys.class.getDeclaredConstructors()) {
            found.add(constructor.toString());
        }
        return found.toString();
    }

    private static String methods() {
        TreeSet<String> found = new TreeSet<>();
        for (Method method : MasterKeys.class.getDeclaredMethods()) {
            if (!Modifier.isPrivate(method.getModifiers())) {
                found.add(described(method));
            }
        }
        return found.toString();
    }

    private static String described(Method method) {
        StringBuilder text = new StringBuilder();
        text.append(method.getReturnType()).append(' ').append(method.getName()).append('(');
        String comma = "";
        for (Class<?> type : method.getParameterTypes()) {
            text.append(comma).append(type);
            comma = ",";
        }
        text.append(')');
        for (Class<?> type : method.getExceptionTypes()) {
            text.append(' ').append(type.getSimpleName());
        }
        return text.toString();
    }
}
