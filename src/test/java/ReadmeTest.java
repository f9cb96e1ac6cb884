import java.io.IOException;
import java.lang.reflect.Method;
import java.lang.reflect.Modifier;
import java.net.URL;
import java.net.URLClassLoader;
import java.nio.charset.StandardCharsets;
import java.nio.file.DirectoryStream;
import java.nio.file.Files;
import java.nio.file.Path;
import java.util.ArrayList;
import java.util.List;
import java.util.Set;
import java.util.TreeSet;
import java.util.regex.Matcher;
import java.util.regex.Pattern;
import javax.tools.JavaCompiler;
import javax.tools.ToolProvider;

/** README.md: its examples are compiled and answer what it says, and no call, no constant and no test is left out. */
final class ReadmeTest {
    private static final Path README = Path.of("README.md");
    private static final Path TESTS = Path.of("src/test/java");

    private static final Pattern ANSWERED = Pattern.compile("(x\\.\\w+\\(.*\\)); +// (-?\\d+|[A-Z]{4,})\\b.*");
    private static final Pattern NUMBERED = Pattern.compile("`?([A-Z]{4,})`? \\((-\\d+)\\)");
    private static final Pattern PATH = Pattern.compile("(?<![\\w./])(?:src|\\.ci)/[\\w./]*\\w");

    /** The lines of the examples, with the number of each line in the page. */
    private static List<String> exampleLines(List<String> page, List<Integer> numbers) {
        List<String> lines = new ArrayList<>();
        boolean isExample = false;
        for (int i = 0; i < page.size(); i++) {
            String line = page.get(i);
            if (line.startsWith("```")) {
                isExample = line.equals("```java");
            } else if (isExample && !line.isEmpty()) {
                lines.add(line);
                numbers.add(i + 1);
            }
        }
        return lines;
    }

    private static long valueOf(String told) throws ReflectiveOperationException {
        return told.matches("-?\\d+") ? Long.parseLong(told) : HungryJury.class.getField(told).getInt(null);
    }

    /** A class that runs the examples and hands out the answers of those calls that the page tells an answer of. */
    private static String programOf(List<String> lines) {
        StringBuilder program = new StringBuilder("public final class Examples {\n"
            + "public static java.util.List<Long> answers() {\n"
            + "java.util.List<Long> answers = new java.util.ArrayList<>();\n");
        for (String line : lines) {
            Matcher answered = ANSWERED.matcher(line);
            program.append(answered.matches() ? "answers.add((long) " + answered.group(1) + ");" : line).append('\n');
        }
        return program.append("return answers;\n}\n}\n").toString();
    }

    private static List<?> answersOf(String program) throws Exception {
        Path folder = Files.createTempDirectory("readme");
        try {
            return compiled(program, folder) ? answersIn(folder) : List.of();
        } finally {
            try (DirectoryStream<Path> made = Files.newDirectoryStream(folder)) {
                for (Path file : made) {
                    Files.delete(file);
                }
            }
            Files.delete(folder);
        }
    }

    private static boolean compiled(String program, Path folder) throws IOException {
        Path source = folder.resolve("Examples.java");
        Files.writeString(source, program, StandardCharsets.UTF_8);
        JavaCompiler compiler = ToolProvider.getSystemJavaCompiler();
        boolean isCompiled = compiler != null && compiler.run(null, null, null, "-proc:none", "-implicit:none",
            "-cp", System.getProperty("java.class.path"), "-d", folder.toString(), source.toString()) == 0;
        Due.that("the examples can be compiled", isCompiled);
        return isCompiled;
    }

    private static List<?> answersIn(Path folder) throws Exception {
        try (URLClassLoader loader = new URLClassLoader(new URL[] {folder.toUri().toURL()})) {
            return (List<?>) loader.loadClass("Examples").getMethod("answers").invoke(null);
        }
    }

    private static void examples(List<String> page) throws Exception {
        List<Integer> numbers = new ArrayList<>();
        List<String> lines = exampleLines(page, numbers);
        List<?> answers = answersOf(programOf(lines));
        int next = 0;
        for (int i = 0; i < lines.size(); i++) {
            Matcher answered = ANSWERED.matcher(lines.get(i));
            Due.that("line " + numbers.get(i) + " tells its answer", answered.matches() == lines.get(i).startsWith("x."));
            if (answered.matches() && next < answers.size()) {
                long got = (Long) answers.get(next);
                Due.is("line " + numbers.get(i) + ", " + answered.group(1), got, valueOf(answered.group(2)));
                next++;
            }
        }
        Due.is("answers that were compared", next, answers.size());
        Due.that("there are examples", next > 0);
    }

    private static void noCallIsLeftOut(List<String> page) {
        String examples = String.join("\n", exampleLines(page, new ArrayList<>()));
        for (Method m : HungryJury.class.getDeclaredMethods()) {
            boolean isCall = Modifier.isPublic(m.getModifiers());
            Due.that("an example of " + m.getName(), !isCall || examples.contains("x." + m.getName() + "("));
        }
    }

    private static void constants(String page) throws ReflectiveOperationException {
        Set<String> told = new TreeSet<>();
        Matcher numbered = NUMBERED.matcher(page);
        while (numbered.find()) {
            told.add(numbered.group(1));
            Due.is(numbered.group(1), Long.parseLong(numbered.group(2)), valueOf(numbered.group(1)));
        }
        Due.same("constants told", told.toString(), "[FULL, NONE, OUTSIDE, STATE, UNKNOWN]");
    }

    private static void noTestIsLeftOut(String page) throws IOException {
        Set<String> files = new TreeSet<>();
        try (DirectoryStream<Path> tests = Files.newDirectoryStream(TESTS, "*.java")) {
            for (Path test : tests) {
                files.add(test.getFileName().toString().replace(".java", ""));
            }
        }
        for (String file : files) {
            Due.that(file + " is told of", page.contains("`" + file + "`"));
        }
        Matcher named = Pattern.compile("`(\\w+Test)`").matcher(page);
        while (named.find()) {
            Due.that("there is a " + named.group(1), files.contains(named.group(1)));
        }
    }

    private static void paths(String page) {
        Matcher path = PATH.matcher(page.replace("src/test/java/*Test.java", "src/test/java"));
        while (path.find()) {
            Due.that("there is " + path.group(), Files.exists(Path.of(path.group())));
        }
    }

    public static void main(String[] args) throws Exception {
        List<String> lines = Files.readAllLines(README, StandardCharsets.UTF_8);
        String page = String.join("\n", lines);
        examples(lines);
        noCallIsLeftOut(lines);
        constants(page);
        noTestIsLeftOut(page);
        paths(page);
        Due.finish();
    }
}
