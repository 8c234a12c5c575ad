import java.io.IOException;
import java.lang.reflect.Method;
import java.lang.reflect.Modifier;
import java.net.URL;
import java.net.URLClassLoader;
import java.nio.file.Files;
import java.nio.file.Path;
import java.util.ArrayList;
import java.util.List;
import java.util.regex.Matcher;
import java.util.regex.Pattern;
import java.util.stream.Stream;
import javax.tools.JavaCompiler;
import javax.tools.ToolProvider;

/** The calls that README.md shows are compiled as they stand there, made in their order, and answer as it says. */
public final class ReadmeTest {
    private static final Pattern ANSWERED = Pattern.compile("(x\\.\\w+\\(.*\\)); +// (?:throws (\\w+)|(-?\\d+|NONE))(?:[:,].*)?");
    private static final Pattern SAYS_AN_ANSWER = Pattern.compile("// (throws\\b|NONE|-?\\d)");
    private static final String CLASS_NAME = "ReadmeCalls";

    private final StringBuilder methods = new StringBuilder();
    private final StringBuilder calls = new StringBuilder();
    private final List<String> shown = new ArrayList<>();
    private final List<String> due = new ArrayList<>();

    private ReadmeTest() {
    }

    public static void main(String[] args) throws Exception {
        List<String> lines = Files.readAllLines(Path.of("README.md"));
        namesEveryTest(lines);
        showsEveryCall(lines);
        ReadmeTest test = new ReadmeTest();
        test.takeBlocks(lines);
        Check.is("answers that README.md says, more than forty", test.due.size() > 40 ? 1 : 0, 1);
        List<String> got = test.answers();
        for (int k = 0; k < test.due.size(); k++) {
            Check.same(test.shown.get(k), k < got.size() ? got.get(k) : "nothing", test.due.get(k));
        }
        Check.end("ReadmeTest");
    }

    private static void namesEveryTest(List<String> lines) throws IOException {
        String all = String.join("\n", lines);
        try (Stream<Path> files = Files.list(Path.of("src/test/java"))) {
            for (Path file : (Iterable<Path>) files.sorted()::iterator) {
                String name = file.getFileName().toString().replace(".java", "");
                if (name.endsWith("Test")) {
                    Check.is("README.md names " + name, all.contains("`" + name + "`") ? 1 : 0, 1);
                }
            }
        }
        Matcher named = Pattern.compile("`(\\w+Test)`").matcher(all);
        while (named.find()) {
            Path file = Path.of("src/test/java", named.group(1) + ".java");
            Check.is("README.md names " + file + ", which is there", Files.exists(file) ? 1 : 0, 1);
        }
    }

    private static void showsEveryCall(List<String> lines) {
        String all = String.join("\n", lines);
        for (Method call : WardEngine.class.getDeclaredMethods()) {
            if (Modifier.isPublic(call.getModifiers())) {
                Check.is("README.md shows " + call.getName(), all.contains("x." + call.getName() + "(") ? 1 : 0, 1);
            }
        }
    }

    /** A block that begins with a method is a member of the class that is made; all others are one run of calls. */
    private void takeBlocks(List<String> lines) {
        boolean inside = false;
        StringBuilder target = calls;
        for (int k = 0; k < lines.size(); k++) {
            String line = lines.get(k);
            if (line.startsWith("```")) {
                inside = line.equals("```java");
                target = k + 1 < lines.size() && lines.get(k + 1).startsWith("static ") ? methods : calls;
            } else if (inside) {
                target.append(target == calls ? withAnswer(line) : line).append('\n');
            }
        }
    }

    private String withAnswer(String line) {
        Matcher parts = ANSWERED.matcher(line);
        if (!parts.matches()) {
            Check.is("can be read: " + line, SAYS_AN_ANSWER.matcher(line).find() ? 1 : 0, 0);
            return line;
        }
        shown.add(line);
        due.add(parts.group(2) != null ? parts.group(2) : parts.group(3).replace("NONE", "-1"));
        return "try { got.add(String.valueOf(" + parts.group(1) + ")); }"
                + " catch (RuntimeException e) { got.add(e.getClass().getSimpleName()); }";
    }

    private List<String> answers() throws Exception {
        Path folder = Files.createTempDirectory("readme");
        Path source = folder.resolve(CLASS_NAME + ".java");
        Files.writeString(source, "public final class " + CLASS_NAME + " {\n" + methods
                + "public static void make(java.util.List<String> got) {\n" + calls + "}\n}\n");
        List<String> got = new ArrayList<>();
        JavaCompiler compiler = ToolProvider.getSystemJavaCompiler();
        int failed = compiler.run(null, null, null, "-cp", System.getProperty("java.class.path"), "-d", folder.toString(),
                source.toString());
        Check.is("README.md compiles", failed, 0);
        if (failed == 0) {
            try (URLClassLoader loader = new URLClassLoader(new URL[] {folder.toUri().toURL()})) {
                loader.loadClass(CLASS_NAME).getMethod("make", List.class).invoke(null, got);
            }
        }
        remove(folder);
        return got;
    }

    private static void remove(Path folder) throws IOException {
        try (Stream<Path> files = Files.list(folder)) {
            for (Path file : (Iterable<Path>) files::iterator) {
                Files.delete(file);
            }
        }
        Files.delete(folder);
    }
}
