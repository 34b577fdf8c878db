import java.io.IOException;
import java.lang.reflect.Method;
import java.lang.reflect.Modifier;
import java.net.URL;
import java.net.URLClassLoader;
import java.nio.file.Files;
import java.nio.file.Path;
import java.util.Comparator;
import java.util.List;
import java.util.Set;
import java.util.TreeSet;
import java.util.regex.MatchResult;
import java.util.regex.Matcher;
import java.util.regex.Pattern;
import java.util.stream.Collectors;
import java.util.stream.Stream;
import javax.tools.ToolProvider;

/** README.md is so: its examples compile and answer as they say there, and what it names is there. */
public final class ReadmeTest {
    private static final Pattern BLOCK = Pattern.compile("```java\n(.*?)```", Pattern.DOTALL);
    private static final Pattern CALL = Pattern.compile("(x\\.\\w+\\(.*\\)); *// (-?\\d+)(:.*)?");
    private static final Pattern NAME = Pattern.compile("`([^`\n]+)`");
    private static int right = 0;
    private static int wrong = 0;

    private static void check(boolean holds, String otherwise) {
        if (holds) {
            right++;
        } else {
            wrong++;
            System.out.println(otherwise);
        }
    }

    /** Called by the class made of the examples. */
    public static void due(String call, int got, int want) {
        check(got == want, "README.md says of " + call + " " + want + ", and it answered " + got);
    }

    /** The examples as one class: a block that is a method stands for itself, all others are one run. */
    private static String sourceOf(String page) {
        StringBuilder methods = new StringBuilder();
        StringBuilder run = new StringBuilder();
        Matcher blocks = BLOCK.matcher(page);
        while (blocks.find()) {
            String block = blocks.group(1);
            if (block.startsWith("static ")) {
                methods.append(block);
            } else {
                block.lines().forEach(line -> run.append(statementOf(line)).append('\n'));
            }
        }
        return "public final class Examples {\n" + methods + "public static void run() {\n" + run + "}\n}\n";
    }

    private static String statementOf(String line) {
        Matcher call = CALL.matcher(line);
        if (call.matches()) {
            return "ReadmeTest.due(\"" + call.group(1) + "\", " + call.group(1) + ", " + call.group(2) + ");";
        }
        check(!line.startsWith("x."), "no answer stands behind: " + line);
        return line;
    }

    private static void examples(String page, Path folder) throws Exception {
        Path source = folder.resolve("Examples.java");
        Files.writeString(source, sourceOf(page));
        int failed = ToolProvider.getSystemJavaCompiler().run(null, null, null, "-proc:none",
                "-cp", System.getProperty("java.class.path"), "-d", folder.toString(), source.toString());
        check(failed == 0, "the examples do not compile");
        if (failed == 0) {
            try (URLClassLoader loader = new URLClassLoader(new URL[] {folder.toUri().toURL()})) {
                loader.loadClass("Examples").getMethod("run").invoke(null);
            }
        }
    }

    /** Every method of the face has an example, but for those that the way to tell a text shows. */
    private static void methods(String page) {
        for (Method m : FoldDeeds.class.getDeclaredMethods()) {
            if (Modifier.isPublic(m.getModifiers())) {
                check(page.contains("x." + m.getName() + "("), "no example of " + m.getName());
            }
        }
    }

    private static Set<String> filesOfTests() throws IOException {
        try (Stream<Path> files = Files.list(Path.of("src/test/java"))) {
            return files.map(f -> f.getFileName().toString()).filter(f -> f.endsWith(".java"))
                    .map(f -> f.substring(0, f.length() - 5)).collect(Collectors.toCollection(TreeSet::new));
        }
    }

    private static void names(String page) throws IOException {
        Set<String> files = filesOfTests();
        List<String> named = NAME.matcher(page).results().map((MatchResult m) -> m.group(1)).toList();
        for (String file : files) {
            check(named.contains(file), "README.md does not name " + file);
        }
        for (String name : named) {
            if (name.matches("[A-Z]\\w+")) {
                check(files.contains(name), "README.md names " + name + ", which is not there");
            } else if (name.matches("\\S*(/|\\.md)\\S*")) {
                check(Files.exists(Path.of(name)), "README.md names " + name + ", which is not there");
            }
        }
    }

    public static void main(String[] args) throws Exception {
        String page = Files.readString(Path.of("README.md"));
        Path folder = Files.createTempDirectory("readme");
        try {
            examples(page, folder);
        } finally {
            try (Stream<Path> made = Files.walk(folder)) {
                made.sorted(Comparator.reverseOrder()).forEach(f -> f.toFile().delete());
            }
        }
        methods(page);
        names(page);
        System.out.println(right + " things of README.md are so, " + wrong + " are not");
        if (wrong > 0) {
            System.exit(1);
        }
    }
}
