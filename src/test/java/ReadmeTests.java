import java.io.IOException;
import java.lang.reflect.Method;
import java.lang.reflect.Modifier;
import java.nio.charset.StandardCharsets;
import java.nio.file.Files;
import java.nio.file.Path;
import java.util.ArrayList;
import java.util.Comparator;
import java.util.List;
import java.util.Set;
import java.util.TreeSet;
import java.util.regex.Matcher;
import java.util.regex.Pattern;
import java.util.stream.Stream;

/** README.md shows a program and how to compile and run it; so it is, and answers what it says. */
public final class ReadmeTests {
    private static final Path README = Path.of("README.md");
    private static final Path PROGRAM = Path.of("src", "main", "java", "Voidrent.java");
    private static final Path TESTS = Path.of("src", "test", "java");
    private static final Pattern BLOCK = Pattern.compile("(?ms)^```(\\w+)\n(.*?)^```$");
    private static final Pattern SAID = Pattern.compile(" *say\\(.*\\); +// ([^: ]+)(: .*)?");
    private static final Pattern TEST_NAME = Pattern.compile("`(\\w+Tests)`");

    public static void main(String[] args) throws IOException, InterruptedException {
        String readme = Files.readString(README);
        List<String> programs = blocks(readme, "java");
        List<String> commands = blocks(readme, "sh");
        Check.due("programs in README.md", 1, programs.size());
        Check.due("commands in README.md", 2, commands.size());
        if (programs.size() == 1 && commands.size() == 2) {
            answersWhatItSays(programs.get(0), commands.get(0));
            showsEachCall(programs.get(0));
            saysHowTestsAreRun(readme, commands.get(1));
        }
        Check.close("ReadmeTests");
    }

    private static List<String> blocks(String readme, String language) {
        List<String> found = new ArrayList<>();
        Matcher block = BLOCK.matcher(readme);
        while (block.find()) {
            if (block.group(1).equals(language)) {
                found.add(block.group(2));
            }
        }
        return found;
    }

    private static void answersWhatItSays(String program, String commands)
            throws IOException, InterruptedException {
        List<String> said = said(program);
        List<String> printed = printed(program, commands);
        Check.due("how many answers are printed", said.size(), printed.size());
        for (int place = 0; place < Math.min(said.size(), printed.size()); place++) {
            Check.due("answer " + (place + 1), said.get(place), printed.get(place));
        }
    }

    /** What stands behind the calls, each of which has to have its answer there. */
    private static List<String> said(String program) {
        List<String> answers = new ArrayList<>();
        for (String line : program.split("\n")) {
            if (line.strip().startsWith("say(")) {
                Matcher said = SAID.matcher(line);
                Check.due("an answer is said in '" + line.strip() + "'", true, said.matches());
                answers.add(said.matches() ? said.group(1) : "");
            }
        }
        return answers;
    }

    /** In a folder with the class where README.md has it, so that the project's own stays clean. */
    private static List<String> printed(String program, String commands)
            throws IOException, InterruptedException {
        Path folder = Files.createTempDirectory("readme");
        try {
            Files.createDirectories(folder.resolve(PROGRAM).getParent());
            Files.copy(PROGRAM, folder.resolve(PROGRAM));
            Files.writeString(folder.resolve("Example.java"), program);
            ProcessBuilder shell = new ProcessBuilder("sh", "-e", "-c", commands);
            Process run = shell.directory(folder.toFile()).redirectErrorStream(true).start();
            run.getOutputStream().close();
            String text = new String(run.getInputStream().readAllBytes(), StandardCharsets.UTF_8);
            int code = run.waitFor();
            Check.due("how the commands end", "with 0", code == 0 ? "with 0" : "with " + code + ": " + text);
            return text.lines().toList();
        } finally {
            remove(folder);
        }
    }

    private static void remove(Path folder) throws IOException {
        try (Stream<Path> inside = Files.walk(folder)) {
            for (Path path : inside.sorted(Comparator.reverseOrder()).toList()) {
                Files.delete(path);
            }
        }
    }

    private static void showsEachCall(String program) {
        Check.due("shows how an object is made", true, program.contains("new Voidrent()"));
        for (Method method : Voidrent.class.getDeclaredMethods()) {
            if (Modifier.isPublic(method.getModifiers())) {
                Check.due("shows " + method.getName(), true,
                        program.contains("roll." + method.getName() + "("));
            }
        }
    }

    private static void saysHowTestsAreRun(String readme, String commands) throws IOException {
        Check.due("how the tests are run", ".ci/run", commands.strip());
        Check.due("it can be run", true, Files.isExecutable(Path.of(".ci", "run")));
        Set<String> named = new TreeSet<>();
        Matcher name = TEST_NAME.matcher(readme);
        while (name.find()) {
            named.add(name.group(1));
        }
        Check.due("the project's tests", own(), named);
    }

    private static Set<String> own() throws IOException {
        Set<String> names = new TreeSet<>();
        try (Stream<Path> files = Files.list(TESTS)) {
            for (Path file : files.toList()) {
                String name = file.getFileName().toString();
                if (name.endsWith("Tests.java")) {
                    names.add(name.substring(0, name.length() - 5));
                }
            }
        }
        return names;
    }
}
