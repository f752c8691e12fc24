import java.io.IOException;
import java.io.UncheckedIOException;
import java.lang.reflect.Constructor;
import java.lang.reflect.Field;
import java.lang.reflect.InvocationTargetException;
import java.lang.reflect.Method;
import java.lang.reflect.Modifier;
import java.lang.reflect.Parameter;
import java.nio.file.Files;
import java.nio.file.Path;
import java.util.ArrayList;
import java.util.HashSet;
import java.util.List;
import java.util.Set;
import java.util.TreeSet;
import java.util.regex.Matcher;
import java.util.regex.Pattern;

/** The lines of 'The public face', the same lines above the promises, and the parts of the face. */
final class FaceSentences {
    private static final Path PROGRAM = Path.of("src", "main", "java", "Voidrent.java");
    private static final Pattern PART = Pattern.compile(" *// (----.*)");
    private static final Pattern DECLARED = Pattern.compile(" *public \\S+ (\\w+)\\(.*");

    /** Numbers that are in range for some arguments, and for no one; FULL refuses a step on day 239. */
    private static final int[] NUMBERS =
            {Scene.LEAST, -1, 0, 1, 6, 23, 24, 239, 7200, 1000000, Scene.MOST};

    /** The lines that a sentence here is about; the class shows no other one. */
    private static final Set<String> LINES = new TreeSet<>();

    private FaceSentences() {
    }

    static void test() {
        line("public static final int NONE = -1;", () -> Check.due("NONE", -1, Voidrent.NONE));
        line("public Voidrent();", FaceSentences::theConstructor);
        Sentence.of(1, "`Voidrent()`", FaceSentences::theConstructor);
        linesOfTelling();
        linesOfAsking();
        Sentence.of("The public face", "public final class Voidrent {", FaceSentences::theClass);

        ahead("---- units, indices, costs", "setArea", "setIndex", "setCost");
        ahead("---- leases", "let", "end", "step", "setTerms", "setService");
        ahead("---- deposits", "topUp", "draw", "held");
        ahead("---- what is asked: rents", "leases", "leaseOn", "rentOn", "bill", "billByDays", "bills",
                "nextChange");
        ahead("---- what is asked: service", "voids", "part", "owners", "balance", "share");
    }

    private static void linesOfTelling() {
        call(2, "int setArea(int unit, int area)"
                + " throws IndexOutOfBoundsException, IllegalArgumentException");
        call(3, "int setIndex(int month, int index)"
                + " throws IndexOutOfBoundsException, IllegalArgumentException");
        call(4, "int setCost(int year, int cost)"
                + " throws IndexOutOfBoundsException, IllegalArgumentException");
        call(5, "int let(int unit, int from, int to, int rent)"
                + " throws IndexOutOfBoundsException, IllegalArgumentException, IllegalStateException");
        call(6, "int end(int lease, int to)"
                + " throws IndexOutOfBoundsException, IllegalArgumentException");
        call(7, "int step(int lease, int day, int rent)"
                + " throws IndexOutOfBoundsException, IllegalArgumentException, IllegalStateException");
        call(8, "void setTerms(int lease, int free, int every)"
                + " throws IndexOutOfBoundsException, IllegalArgumentException");
        call(9, "void setService(int lease, int cap, int prepaid)"
                + " throws IndexOutOfBoundsException, IllegalArgumentException");
        call(10, "int topUp(int lease, int day, int rents)"
                + " throws IndexOutOfBoundsException, IllegalArgumentException");
        call(11, "int draw(int lease, int amount)"
                + " throws IndexOutOfBoundsException, IllegalArgumentException, IllegalStateException");
    }

    private static void linesOfAsking() {
        call(12, "int held(int lease) throws IndexOutOfBoundsException");
        call(13, "int leases()");
        call(14, "int leaseOn(int unit, int day) throws IndexOutOfBoundsException");
        call(15, "int rentOn(int lease, int day) throws IndexOutOfBoundsException");
        call(16, "int bill(int lease, int month) throws IndexOutOfBoundsException");
        call(17, "int billByDays(int lease, int month) throws IndexOutOfBoundsException");
        call(18, "long bills(int lease, int from, int to)"
                + " throws IndexOutOfBoundsException, IllegalArgumentException");
        call(19, "int nextChange(int lease, int day) throws IndexOutOfBoundsException");
        call(20, "int voids(int unit, int year) throws IndexOutOfBoundsException");
        call(21, "int part(int lease, int year) throws IndexOutOfBoundsException");
        call(22, "int owners(int year) throws IndexOutOfBoundsException");
        call(23, "int balance(int lease, int year) throws IndexOutOfBoundsException");
        call(24, "double share(int unit) throws IndexOutOfBoundsException");
    }

    private static void line(String line, Sentence.Test test) {
        LINES.add(line);
        Sentence.of("The public face", line, () -> {
            Check.due("the class shows it", true, shown().contains(line));
            test.run();
        });
    }

    /** The document tells a call twice: in the face, and above its promise. */
    private static void call(int promise, String words) {
        String line = "public " + words + ";";
        line(line, () -> throwsWhatItSays(words));
        Sentence.of(promise, "`" + words + "`",
                () -> Check.due("the class shows it", true, shown().contains(line)));
    }

    private static void theClass() {
        Check.due("the class", "public final", Modifier.toString(Voidrent.class.getModifiers()));
        Check.due("its name", "Voidrent", Voidrent.class.getName());
        Check.due("what it extends", Object.class, Voidrent.class.getSuperclass());
        Check.due("what it implements", 0, Voidrent.class.getInterfaces().length);
        Check.due("what it shows", LINES, shown());
        Set<String> names = new HashSet<>();
        for (Method method : Voidrent.class.getDeclaredMethods()) {
            if (!Modifier.isPrivate(method.getModifiers())) {
                Check.due("another " + method.getName(), true, names.add(method.getName()));
            }
        }
        for (Method method : Voidrent.class.getDeclaredMethods()) {
            if (Modifier.isPrivate(method.getModifiers())) {
                Check.due("a public name for the private " + method.getName(), false,
                        names.contains(method.getName()));
            }
        }
    }

    private static void theConstructor() {
        Voidrent told = Scene.FULL.make();
        Voidrent x = new Voidrent();
        Check.due("leases of a new object, beside another one", 0, x.leases());
        Check.due("the area of its unit", 0, x.setArea(0, 7));
        Check.due("its cost", 0, x.setCost(0, 7));
        Check.due("the other one's area", 10, told.setArea(0, 10));
        Check.due("the other one's cost", 100000, told.setCost(0, 100000));
    }

    /** All that is not private, written as the document writes it. */
    private static Set<String> shown() {
        Set<String> lines = new TreeSet<>();
        for (Field field : Voidrent.class.getDeclaredFields()) {
            if (!Modifier.isPrivate(field.getModifiers())) {
                lines.add(Modifier.toString(field.getModifiers()) + " " + field.getType() + " "
                        + field.getName() + " = " + Voidrent.NONE + ";");
            }
        }
        for (Constructor<?> made : Voidrent.class.getDeclaredConstructors()) {
            lines.add(words(Modifier.toString(made.getModifiers()) + " Voidrent", made.getParameters(),
                    made.getExceptionTypes()));
        }
        for (Method method : Voidrent.class.getDeclaredMethods()) {
            if (!Modifier.isPrivate(method.getModifiers())) {
                lines.add(words(Modifier.toString(method.getModifiers()) + " " + method.getReturnType()
                        + " " + method.getName(), method.getParameters(), method.getExceptionTypes()));
            }
        }
        return lines;
    }

    private static String words(String front, Parameter[] taken, Class<?>[] thrown) {
        List<String> arguments = new ArrayList<>();
        for (Parameter argument : taken) {
            arguments.add(argument.getType() + " " + argument.getName());
        }
        List<String> exceptions = new ArrayList<>();
        for (Class<?> exception : thrown) {
            exceptions.add(exception.getSimpleName());
        }
        return front + "(" + String.join(", ", arguments) + ")"
                + (exceptions.isEmpty() ? "" : " throws " + String.join(", ", exceptions)) + ";";
    }

    /** With any numbers, the call throws what its line names, each of it, and nothing else. */
    private static void throwsWhatItSays(String words) {
        Set<String> due = new TreeSet<>();
        int behind = words.indexOf(" throws ");
        if (behind >= 0) {
            due.addAll(List.of(words.substring(behind + 8).split(", ")));
        }
        Set<String> thrown = new TreeSet<>();
        String name = words.substring(words.indexOf(' ') + 1, words.indexOf('('));
        for (Method method : Voidrent.class.getDeclaredMethods()) {
            if (method.getName().equals(name)) {
                callWithAll(method, new Object[method.getParameterCount()], 0, thrown);
            }
        }
        Check.due("what it throws", due, thrown);
    }

    private static void callWithAll(Method method, Object[] arguments, int place, Set<String> thrown) {
        if (place == arguments.length) {
            for (Scene scene : new Scene[] {Scene.EMPTY, Scene.SOME, Scene.FULL}) {
                call(method, scene.make(), arguments, thrown);
            }
            return;
        }
        for (int number : NUMBERS) {
            arguments[place] = number;
            callWithAll(method, arguments, place + 1, thrown);
        }
    }

    private static void call(Method method, Voidrent x, Object[] arguments, Set<String> thrown) {
        try {
            method.invoke(x, arguments);
        } catch (InvocationTargetException refused) {
            thrown.add(refused.getCause().getClass().getSimpleName());
        } catch (IllegalAccessException refused) {
            thrown.add("no call, as it isn't public");
        }
    }

    private static void ahead(String part, String... calls) {
        Sentence.of("Terms", "Ahead of the calls `" + String.join("`, `", calls)
                + "` the interface says: " + part + ".",
                () -> Check.due("the calls behind it", List.of(calls), callsBehind(part)));
    }

    private static List<String> callsBehind(String part) {
        List<String> calls = new ArrayList<>();
        String last = "";
        for (String line : linesOfProgram()) {
            Matcher title = PART.matcher(line);
            last = title.matches() ? title.group(1) : last;
            Matcher declared = DECLARED.matcher(line);
            if (declared.matches() && last.equals(part)) {
                calls.add(declared.group(1));
            }
        }
        return calls;
    }

    private static List<String> linesOfProgram() {
        try {
            return Files.readAllLines(PROGRAM);
        } catch (IOException unread) {
            throw new UncheckedIOException(unread);
        }
    }
}
