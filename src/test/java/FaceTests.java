import java.lang.reflect.Constructor;
import java.lang.reflect.Field;
import java.lang.reflect.Method;
import java.lang.reflect.Modifier;
import java.util.Arrays;
import java.util.HashSet;
import java.util.Set;
import java.util.TreeSet;

/** The class shows the document's face, and nothing else. */
public final class FaceTests {
    private static final String[] FACE = {
        "int setArea(int, int) PLACE ARGUMENT",
        "int setIndex(int, int) PLACE ARGUMENT",
        "int setCost(int, int) PLACE ARGUMENT",
        "int let(int, int, int, int) PLACE ARGUMENT STATE",
        "int end(int, int) PLACE ARGUMENT",
        "int step(int, int, int) PLACE ARGUMENT STATE",
        "void setTerms(int, int, int) PLACE ARGUMENT",
        "void setService(int, int, int) PLACE ARGUMENT",
        "int topUp(int, int, int) PLACE ARGUMENT",
        "int draw(int, int) PLACE ARGUMENT STATE",
        "int held(int) PLACE",
        "int leases()",
        "int leaseOn(int, int) PLACE",
        "int rentOn(int, int) PLACE",
        "int bill(int, int) PLACE",
        "int billByDays(int, int) PLACE",
        "long bills(int, int, int) PLACE ARGUMENT",
        "int nextChange(int, int) PLACE",
        "int voids(int, int) PLACE",
        "int part(int, int) PLACE",
        "int owners(int) PLACE",
        "int balance(int, int) PLACE",
        "double share(int) PLACE",
    };

    public static void main(String[] args) {
        theClass();
        theMethods();
        theFields();
        Check.close("FaceTests");
    }

    private static void theClass() {
        Check.due("the class", "public final", Modifier.toString(Voidrent.class.getModifiers()));
        Check.due("its package", "", Voidrent.class.getPackageName());
        Constructor<?>[] made = Voidrent.class.getDeclaredConstructors();
        Check.due("constructors", 1, made.length);
        Check.due("the constructor", "public Voidrent()", made[0].toString());
    }

    private static void theMethods() {
        Set<String> shown = new TreeSet<>();
        Set<String> names = new HashSet<>();
        for (Method method : Voidrent.class.getDeclaredMethods()) {
            if (!Modifier.isPrivate(method.getModifiers())) {
                Check.due("modifiers of " + method.getName(), "public",
                        Modifier.toString(method.getModifiers()));
                shown.add(told(method));
                names.add(method.getName());
            }
        }
        Check.due("the methods", new TreeSet<>(Arrays.asList(FACE)), shown);
        for (Method method : Voidrent.class.getDeclaredMethods()) {
            if (Modifier.isPrivate(method.getModifiers())) {
                Check.due("a public name for the private " + method.getName(), false,
                        names.contains(method.getName()));
            }
        }
    }

    private static String told(Method method) {
        StringBuilder text = new StringBuilder();
        text.append(method.getReturnType()).append(' ').append(method.getName()).append('(');
        String between = "";
        for (Class<?> type : method.getParameterTypes()) {
            text.append(between).append(type);
            between = ", ";
        }
        text.append(')');
        for (Class<?> thrown : method.getExceptionTypes()) {
            text.append(thrown == Check.PLACE ? " PLACE" : thrown == Check.ARGUMENT ? " ARGUMENT"
                    : thrown == Check.STATE ? " STATE" : " " + thrown);
        }
        return text.toString();
    }

    private static void theFields() {
        Set<String> shown = new TreeSet<>();
        for (Field field : Voidrent.class.getDeclaredFields()) {
            if (!Modifier.isPrivate(field.getModifiers())) {
                shown.add(field.toString());
            }
        }
        Set<String> due = new TreeSet<>();
        due.add("public static final int Voidrent.NONE");
        Check.due("the constants", due, shown);
        Check.due("NONE", -1, Voidrent.NONE);
    }
}
