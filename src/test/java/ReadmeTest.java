import java.net.URL;
import java.net.URLClassLoader;
import java.nio.charset.StandardCharsets;
import java.nio.file.Files;
import java.nio.file.Path;
import java.util.Set;
import java.util.TreeSet;
import java.util.regex.Matcher;
import java.util.regex.Pattern;
import javax.tools.JavaCompiler;
import javax.tools.ToolProvider;

/** What README.md shows in Java is compiled and run: each number behind a line's // is its answer. */
public final class ReadmeTest {
    private static final Pattern BLOCK = Pattern.compile("(?s)```java\n(.*?)```");
    private static final Pattern ASKED = Pattern.compile("(\\w+\\.\\w+\\([^;]*\\)); +// (-?\\d+)\\b.*");
    private static final Pattern SET = Pattern.compile("((?:int )?(\\w+) = [^;]*;) +// (-?\\d+)\\b.*");
    private static final int EXAMPLES_LEAST = 60;

    private static int asked;

    public static void main(String[] args) throws Exception {
        Path root = Path.of(args[0]).toAbsolutePath().getParent().resolve("../../..").normalize();
        String page = Files.readString(root.resolve("README.md"), StandardCharsets.US_ASCII);
        namesEachCall(page);
        Path folder = Files.createDirectories(root.resolve("build/readme"));
        Path file = folder.resolve("ReadmeExample.java");
        Files.writeString(file, program(page), StandardCharsets.US_ASCII);
        JavaCompiler compiler = ToolProvider.getSystemJavaCompiler();
        String path = System.getProperty("java.class.path");
        int wrong = compiler.run(null, null, null, "-cp", path, "-d", folder.toString(), file.toString());
        if (wrong != 0 || asked < EXAMPLES_LEAST) {
            System.out.println("README.md: its Java is not right, or less than " + EXAMPLES_LEAST + " answers");
            System.exit(1);
        }
        // all by one loader, for Due is no public class
        URL[] places = {folder.toUri().toURL(), Path.of(path).toUri().toURL()};
        try (URLClassLoader loader = new URLClassLoader(places, ClassLoader.getPlatformClassLoader())) {
            loader.loadClass("ReadmeExample").getMethod("main", String[].class).invoke(null, (Object) null);
        }
    }

    /** All blocks together are one program; those that begin with static stand outside of its main. */
    private static String program(String page) {
        StringBuilder outside = new StringBuilder();
        StringBuilder inside = new StringBuilder();
        Matcher block = BLOCK.matcher(page);
        while (block.find()) {
            boolean apart = block.group(1).startsWith("static ");
            for (String line : block.group(1).split("\n")) {
                (apart ? outside : inside).append(apart ? line : due(line)).append('\n');
            }
        }
        return "public final class ReadmeExample {\nprivate static final Due DUE = new Due();\n" + outside
                + "public static void main(String[] args) {\n" + inside + "DUE.end(\"ReadmeTest\");\n}\n}\n";
    }

    private static String due(String line) {
        Matcher call = ASKED.matcher(line);
        if (call.matches()) {
            asked++;
            return "DUE.is(\"" + call.group(1) + "\", " + call.group(1) + ", " + call.group(2) + ");";
        }
        Matcher set = SET.matcher(line);
        if (set.matches()) {
            asked++;
            return set.group(1) + " DUE.is(\"" + set.group(2) + "\", " + set.group(2) + ", " + set.group(3) + ");";
        }
        return line;
    }

    private static void namesEachCall(String page) {
        Set<String> left = new TreeSet<>();
        for (var method : MarbleBath.class.getMethods()) {
            String name = method.getName();
            boolean ours = method.getDeclaringClass() == MarbleBath.class;
            if (ours && !Pattern.compile("[`.]" + name + "\\(").matcher(page).find()) {
                left.add(name);
            }
        }
        if (!left.isEmpty() || !page.contains("\n    .ci/run\n")) {
            System.out.println("README.md does not tell of " + left + " or of .ci/run");
            System.exit(1);
        }
    }
}
