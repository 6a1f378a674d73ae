import java.lang.reflect.Method;
import java.lang.reflect.Modifier;
import java.net.URL;
import java.net.URLClassLoader;
import java.nio.file.Files;
import java.nio.file.Path;
import java.util.ArrayList;
import java.util.List;
import java.util.Set;
import java.util.TreeSet;
import java.util.regex.Matcher;
import java.util.regex.Pattern;
import java.util.stream.Collectors;
import java.util.stream.Stream;
import javax.tools.ToolProvider;

/** What README.md says of the calls, of the tests, and of the command that runs them. */
public final class ReadmeTest {
    private static final Pattern CALL = Pattern.compile("(x\\.(\\w+)\\(.*\\));\\s*// (-?\\d+)\\b.*");
    private static final Pattern SHOWN_NUMBER = Pattern.compile("`([A-Z]+)` \\((-\\d+)\\)");

    private final Path root;
    private final List<String> page;

    private ReadmeTest(Path root) throws Exception {
        this.root = root;
        page = Files.readAllLines(root.resolve("README.md"));
    }

    public static void main(String[] args) throws Exception {
        Path source = Path.of(args[0]).toAbsolutePath().normalize();
        ReadmeTest test = new ReadmeTest(source.resolve("../../../..").normalize());
        test.callsAnswerAsShown();
        test.callsAreNamed();
        test.numbersAreAsShown();
        test.testsAreNamed();
        test.theCommandRunsAll();
        Check.end("ReadmeTest");
    }

    private List<String> shownJava() {
        List<String> shown = new ArrayList<>();
        boolean inside = false;
        for (String line : page) {
            if (line.startsWith("```")) {
                inside = line.equals("```java");
            } else if (inside) {
                shown.add(line);
            }
        }
        return shown;
    }

    private static Set<String> face() {
        Set<String> names = new TreeSet<>();
        for (Method m : StoneBeds.class.getDeclaredMethods()) {
            if (Modifier.isPublic(m.getModifiers())) {
                names.add(m.getName());
            }
        }
        return names;
    }

    /** The lines are compiled as they stand, but for a call's answer, which is kept. */
    private void callsAnswerAsShown() throws Exception {
        StringBuilder body = new StringBuilder();
        List<String> calls = new ArrayList<>();
        List<Long> due = new ArrayList<>();
        Set<String> names = new TreeSet<>();
        for (String line : shownJava()) {
            Matcher call = CALL.matcher(line);
            if (call.matches()) {
                body.append("answers.add((long) ").append(call.group(1)).append(");\n");
                calls.add(call.group(1));
                names.add(call.group(2));
                due.add(Long.parseLong(call.group(3)));
            } else {
                Check.due("README: a line that is no call, " + line, line.contains("x.") ? 1 : 0, 0);
                body.append(line).append('\n');
            }
        }
        Check.holds("README: each call is shown: " + names, names.equals(face()));
        List<Long> got = answers(body.toString());
        Check.due("README: so many calls answered", got.size(), due.size());
        for (int i = 0; i < got.size() && i < due.size(); i++) {
            Check.due("README: " + calls.get(i), got.get(i), due.get(i));
        }
    }

    private static List<Long> answers(String body) throws Exception {
        Path folder = Files.createTempDirectory("readme");
        Path source = folder.resolve("Shown.java");
        Path made = folder.resolve("Shown.class");
        List<Long> answers = new ArrayList<>();
        try {
            Files.writeString(source, "public class Shown {\npublic static void ask(java.util.List<Long> answers) {\n" + body + "}\n}\n");
            int compiled = ToolProvider.getSystemJavaCompiler().run(null, null, null,
                "-cp", System.getProperty("java.class.path"), "-d", folder.toString(), source.toString());
            Check.due("README: the calls are Java, javac", compiled, 0);
            if (compiled == 0) {
                try (URLClassLoader loader = new URLClassLoader(new URL[] {folder.toUri().toURL()})) {
                    loader.loadClass("Shown").getMethod("ask", List.class).invoke(null, answers);
                }
            }
        } finally {
            Files.deleteIfExists(source);
            Files.deleteIfExists(made);
            Files.deleteIfExists(folder);
        }
        return answers;
    }

    private Set<String> firstCells(Pattern cell) {
        return page.stream().map(cell::matcher).filter(Matcher::lookingAt).map(m -> m.group(1))
            .collect(Collectors.toCollection(TreeSet::new));
    }

    private void callsAreNamed() {
        Set<String> named = firstCells(Pattern.compile("\\| `(\\w+)\\("));
        Check.holds("README: the table of calls is the face: " + named, named.equals(face()));
        for (Method m : StoneBeds.class.getDeclaredMethods()) {
            if (Modifier.isPublic(m.getModifiers())) {
                String arguments = String.join(", ", java.util.Collections.nCopies(m.getParameterCount(), "\\w+"));
                Pattern row = Pattern.compile("\\| `" + m.getName() + "\\(" + arguments + "\\)` \\|.*");
                Check.holds("README: " + m.getName() + " has its arguments", page.stream().anyMatch(row.asMatchPredicate()));
            }
        }
    }

    private void numbersAreAsShown() throws Exception {
        Set<String> shown = new TreeSet<>();
        Matcher number = SHOWN_NUMBER.matcher(String.join(" ", page));
        while (number.find()) {
            shown.add(number.group(1));
            Check.due("README: " + number.group(1), StoneBeds.class.getField(number.group(1)).getInt(null),
                Long.parseLong(number.group(2)));
        }
        Check.holds("README: BAD, FULL, NO, NONE are told: " + shown, shown.equals(Set.of("BAD", "FULL", "NO", "NONE")));
        Check.due("README: warmth's BAD", new StoneBeds().warmth(61), -100);
    }

    private void testsAreNamed() throws Exception {
        Set<String> there = new TreeSet<>();
        try (Stream<Path> files = Files.list(root.resolve("src/test/java"))) {
            for (Path file : files.collect(Collectors.toList())) {
                String name = file.getFileName().toString();
                boolean isTest = name.endsWith("Test.java");
                boolean hasMain = Files.readString(file).contains("public static void main(");
                Check.due("README: a test's name ends in Test.java, and no other's, " + name, hasMain ? 1 : 0, isTest ? 1 : 0);
                if (isTest) {
                    there.add(name.substring(0, name.length() - ".java".length()));
                }
            }
        }
        Set<String> named = firstCells(Pattern.compile("\\| (\\w+Test) \\|"));
        Check.holds("README: the table of tests, " + named + ", is what is there, " + there, named.equals(there));
    }

    private void theCommandRunsAll() throws Exception {
        Check.holds("README: the command is named", page.contains("    .ci/run"));
        Path command = root.resolve(".ci/run");
        Check.holds("README: the command can be run", Files.isExecutable(command));
        String text = Files.readString(command);
        Check.holds("README: the command runs every test", text.contains("\"$root\"/src/test/java/*Test.java; do"));
        Check.holds("README: the command runs every shared test", text.contains("\"$shared\"/tests/*.java; do"));
    }
}
