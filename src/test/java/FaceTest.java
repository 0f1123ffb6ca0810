import java.lang.reflect.Constructor;
import java.lang.reflect.Field;
import java.lang.reflect.Method;
import java.lang.reflect.Modifier;
import java.util.Arrays;
import java.util.TreeSet;

/** The public face: just the document's constructor and methods, with their exceptions. */
public final class FaceTest {
    public static void main(String[] args) {
        Net.due("the class", "public final", Modifier.toString(GuardNet.class.getModifiers()));
        Net.due("the constructors", "[GuardNet()]", constructors());
        Net.due("the methods", new TreeSet<>(Arrays.asList(
                "int type(long) [IllegalArgumentException, IllegalStateException]",
                "int add() [IllegalArgumentException, IllegalStateException]",
                "void drop(int) [IllegalArgumentException]",
                "int ask() [IllegalArgumentException]",
                "int run(int) [IllegalArgumentException, IllegalStateException,"
                        + " UnsupportedOperationException]",
                "int letter(int,int) [IllegalArgumentException, NoSuchElementException]",
                "int sleeping(int) [IllegalArgumentException]",
                "int count(int) []")), methods());
        Net.due("fields that aren't private", 0, () -> openFields());
        Net.end();
    }

    private static String constructors() {
        TreeSet<String> all = new TreeSet<>();
        for (Constructor<?> each : GuardNet.class.getDeclaredConstructors()) {
            if (Modifier.isPublic(each.getModifiers())) {
                all.add(each.getName() + types(each.getParameterTypes()));
            } else {
                all.add("not public: " + each);
            }
        }
        return all.toString();
    }

    private static TreeSet<String> methods() {
        TreeSet<String> all = new TreeSet<>();
        TreeSet<String> names = new TreeSet<>();
        for (Method each : GuardNet.class.getDeclaredMethods()) {
            if (Modifier.isPublic(each.getModifiers())) {
                names.add(each.getName());
                all.add(each.getReturnType() + " " + each.getName()
                        + types(each.getParameterTypes()) + " " + thrown(each));
            }
        }
        for (Method each : GuardNet.class.getDeclaredMethods()) {
            int modifiers = each.getModifiers();
            boolean hidden = Modifier.isPrivate(modifiers);
            if (!Modifier.isPublic(modifiers) && (!hidden || names.contains(each.getName()))) {
                all.add("not in the document: " + each);
            }
        }
        return all;
    }

    private static String types(Class<?>[] types) {
        StringBuilder text = new StringBuilder("(");
        for (Class<?> type : types) {
            text.append(text.length() == 1 ? "" : ",").append(type.getSimpleName());
        }
        return text.append(")").toString();
    }

    private static String thrown(Method method) {
        TreeSet<String> all = new TreeSet<>();
        for (Class<?> type : method.getExceptionTypes()) {
            all.add(type.getSimpleName());
        }
        return all.toString();
    }

    private static int openFields() {
        int open = 0;
        for (Field each : GuardNet.class.getDeclaredFields()) {
            open += Modifier.isPrivate(each.getModifiers()) ? 0 : 1;
        }
        return open;
    }
}
