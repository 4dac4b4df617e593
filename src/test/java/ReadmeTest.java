import java.io.File;
import java.io.IOException;
import java.lang.reflect.Method;
import java.lang.reflect.Modifier;
import java.net.URL;
import java.net.URLClassLoader;
import java.nio.file.Files;
import java.nio.file.Path;
import java.util.Comparator;
import java.util.List;
import java.util.regex.Matcher;
import java.util.regex.Pattern;
import java.util.stream.Stream;
import javax.tools.JavaCompiler;
import javax.tools.ToolProvider;

/** The program in README.md compiles as it stands there, and each answer in it is the one that the class gives. */
public final class ReadmeTest {
    private static final String NAME = "ReadmeExample";
    private static final Pattern BLOCK = Pattern.compile("(?ms)^```java\\R(.*?)^```\\s*?$");
    // A call whose answer stands behind it, maybe one whose answer is kept by a name.
    private static final Pattern ANSWERED = Pattern.compile("^((?:int|boolean) \\w+ = )?(house\\.(\\w+)\\(.*\\)); +// (-?\\d+|true|false)(?::.*|,.*)?$");

    private ReadmeTest() {
    }

    public static void main(String[] args) throws IOException, ReflectiveOperationException {
        String text = Files.readString(Path.of("README.md"));
        showsEachMethod(text);
        run(source(text));
        Check.done();
    }

    private static void showsEachMethod(String text) {
        for (Method m : MourningHouse.class.getDeclaredMethods()) {
            if (Modifier.isPublic(m.getModifiers())) {
                Check.yes("README.md shows " + m.getName(), text.contains("house." + m.getName() + "("));
            }
        }
    }

    /** The README's pieces as one class: those that begin with static stand beside main, the others in it. */
    private static String source(String text) {
        StringBuilder members = new StringBuilder();
        StringBuilder body = new StringBuilder();
        Matcher block = BLOCK.matcher(text);
        while (block.find()) {
            if (block.group(1).startsWith("static ")) {
                members.append(block.group(1));
            } else {
                block.group(1).lines().forEach(line -> body.append(asked(line)).append('\n'));
            }
        }
        return "public final class " + NAME + " {\n" + members
            + "public static void main(String[] args) {\n" + body + "}\n}\n";
    }

    // Public, as the README's class comes from another loader.
    public static int is(String call, int got, int want) {
        Check.due(call, got, want);
        return got;
    }

    public static boolean is(String call, boolean got, boolean want) {
        Check.due(call, got ? 1 : 0, want ? 1 : 0);
        return got;
    }

    private static String asked(String line) {
        Matcher answered = ANSWERED.matcher(line);
        if (answered.matches()) {
            String kept = answered.group(1) == null ? "" : answered.group(1);
            String call = answered.group(2);
            return kept + "ReadmeTest.is(\"README.md: " + call + "\", " + call + ", " + answered.group(4) + ");";
        }
        Check.no("README.md tells no answer of " + line, line.contains("house."));
        return line;
    }

    private static void run(String source) throws IOException, ReflectiveOperationException {
        Path work = Files.createTempDirectory("readme");
        try {
            Path file = work.resolve(NAME + ".java");
            Files.writeString(file, source);
            JavaCompiler compiler = ToolProvider.getSystemJavaCompiler();
            int refused = compiler.run(null, null, null, "-nowarn", "-d", work.toString(),
                "-cp", System.getProperty("java.class.path"), file.toString());
            Check.due("README.md's program is refused by javac", refused, 0);
            if (refused == 0) {
                try (URLClassLoader loader = new URLClassLoader(new URL[] {work.toUri().toURL()})) {
                    loader.loadClass(NAME).getMethod("main", String[].class).invoke(null, (Object) new String[0]);
                }
            }
        } finally {
            clear(work);
        }
    }

    private static void clear(Path work) throws IOException {
        try (Stream<Path> files = Files.walk(work)) {
            List<File> all = files.sorted(Comparator.reverseOrder()).map(Path::toFile).toList();
            for (File file : all) {
                Check.yes(file + " is deleted", file.delete());
            }
        }
    }
}
