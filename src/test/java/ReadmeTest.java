import java.io.IOException;
import java.lang.reflect.Method;
import java.lang.reflect.Modifier;
import java.net.URL;
import java.net.URLClassLoader;
import java.nio.file.Files;
import java.nio.file.Path;
import java.util.ArrayList;
import java.util.List;
import java.util.Set;
import java.util.TreeSet;
import java.util.regex.Matcher;
import java.util.regex.Pattern;
import java.util.stream.Stream;
import javax.tools.ToolProvider;

/** README.md is so: its program compiles and answers as told, and its tests are those that there are. */
public final class ReadmeTest {
    private static final Pattern BLOCK = Pattern.compile("(?s)```java\n(.*?)```");
    private static final Pattern TOLD = Pattern.compile("(x\\.(\\w+)\\(.*\\)); +// (-?\\d+|NONE|BAD|STATE|FULL)\\b.*");
    private static final Path TESTS = Path.of("src/test/java");
    /** The face in the document's order: promise 2 is the first. */
    private static final List<String> CALLS = List.of(
        "row", "set", "copy", "drop", "feed", "house", "fault", "undo", "buy", "back", "curtain", "write",
        "visitor", "seat", "price", "looked", "seen", "known", "canBe", "suspects", "settled", "cheapest",
        "nextSeat", "followed", "crowd", "told", "believed", "account", "met", "soldOut", "haunted", "image",
        "restore", "kind", "as", "ask", "trace", "count", "status");

    public static void main(String[] args) throws IOException, ReflectiveOperationException {
        String page = Files.readString(Path.of("README.md"));
        program(page);
        tests(page);
        Check.end();
    }

    private static void program(String page) throws IOException, ReflectiveOperationException {
        StringBuilder code = new StringBuilder();
        List<String> calls = new ArrayList<>();
        List<Integer> due = new ArrayList<>();
        Matcher block = BLOCK.matcher(page);
        while (block.find()) {
            for (String line : block.group(1).split("\n")) {
                Matcher told = TOLD.matcher(line);
                if (told.matches()) {
                    calls.add("README.md, promise " + (CALLS.indexOf(told.group(2)) + 2) + ": " + told.group(1));
                    due.add(number(told.group(3)));
                    code.append("all.add(").append(told.group(1)).append(");\n");
                } else {
                    Check.due("an answer that is not told: " + line, line.startsWith("x.") ? 1 : 0, 0);
                    code.append(line).append('\n');
                }
            }
        }
        for (Method call : SeenAgain.class.getDeclaredMethods()) {
            boolean ofFace = Modifier.isPublic(call.getModifiers());
            Check.due("on the page: " + call, !ofFace || page.contains("x." + call.getName() + "(") ? 1 : 0, 1);
        }
        List<?> answers = answers(code.toString());
        Check.due("answers on the page", answers.size(), calls.size());
        for (int i = 0; i < answers.size(); i++) {
            Check.due(calls.get(i), (Integer) answers.get(i), due.get(i));
        }
    }

    private static int number(String told) throws ReflectiveOperationException {
        return told.matches("[A-Z]+") ? SeenAgain.class.getField(told).getInt(null) : Integer.parseInt(told);
    }

    /** What the program answers, call by call: it is compiled as it stands on the page. */
    private static List<?> answers(String code) throws IOException, ReflectiveOperationException {
        Path folder = Files.createTempDirectory("readme");
        Path file = folder.resolve("Readme.java");
        Path made = folder.resolve("Readme.class");
        try {
            Files.writeString(file, "public final class Readme {\n"
                + "public static java.util.List<Integer> answers() {\n"
                + "java.util.List<Integer> all = new java.util.ArrayList<>();\n" + code + "return all;\n}\n}\n");
            int compiled = ToolProvider.getSystemJavaCompiler().run(null, null, null,
                "-cp", System.getProperty("java.class.path"), "-d", folder.toString(), file.toString());
            Check.due("the program of README.md compiles", compiled, 0);
            if (compiled != 0) {
                return List.of();
            }
            try (URLClassLoader loader = new URLClassLoader(new URL[] {folder.toUri().toURL()})) {
                return (List<?>) loader.loadClass("Readme").getMethod("answers").invoke(null);
            }
        } finally {
            Files.deleteIfExists(made);
            Files.deleteIfExists(file);
            Files.deleteIfExists(folder);
        }
    }

    private static void tests(String page) throws IOException {
        Set<String> there = new TreeSet<>();
        try (Stream<Path> files = Files.list(TESTS)) {
            files.map(file -> file.getFileName().toString()).filter(name -> name.endsWith("Test.java"))
                .forEach(name -> there.add(name.replace(".java", "")));
        }
        Set<String> told = new TreeSet<>();
        Matcher name = Pattern.compile("\\b[A-Z]\\w+Test\\b").matcher(page);
        while (name.find()) {
            told.add(name.group());
        }
        Check.due("tests", there.toString(), told.toString());
        Check.due("how to run them", page.contains("`bash .ci/run`") ? 1 : 0, 1);
        Check.due(".ci/run can be run", Files.isExecutable(Path.of(".ci/run")) ? 1 : 0, 1);
    }
}
