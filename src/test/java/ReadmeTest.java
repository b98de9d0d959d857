import java.io.IOException;
import java.net.URL;
import java.net.URLClassLoader;
import java.nio.file.Files;
import java.nio.file.Path;
import java.util.List;
import java.util.regex.Matcher;
import java.util.regex.Pattern;
import java.util.spi.ToolProvider;

/** The README's example compiles, and each call in it answers what its comment begins with. */
public final class ReadmeTest {
    private static final Pattern CALL = Pattern.compile("(?m)^( +)(x\\.\\w+\\([^;\n]*\\));( +// )(-?\\d+|true|false)\\b");
    private static int wrong = 0;
    private static int calls = 0;

    public static void main(String[] args) throws Exception {
        String example = exampleOf(Files.readString(Path.of("README.md")));
        long told = CALL.matcher(example).results().count();
        String rows = example.substring(0, example.indexOf("static void write"));
        long plain = Pattern.compile("\\bx\\.\\w+\\(").matcher(rows).results().count();
        due("calls of the example with an answer", told, plain);
        due("calls of the example, thirty at the least: " + told, told >= 30, true);
        Matcher call = CALL.matcher(example);
        run(call.replaceAll(m -> Matcher.quoteReplacement(m.group(1) + "ReadmeTest.due(\"" + m.group(2) + "\", "
                + m.group(2) + ", " + m.group(4) + ");" + m.group(3) + m.group(4))));
        due("answers that were looked at", calls - 2, told);
        System.out.println("ReadmeTest: " + (calls - wrong) + " of " + calls + " answers are as due");
        System.exit(wrong == 0 ? 0 : 1);
    }

    private static String exampleOf(String readme) {
        Matcher block = Pattern.compile("(?s)```java\n(.*?)```").matcher(readme);
        if (!block.find()) {
            throw new IllegalStateException("README.md has no example");
        }
        return block.group(1);
    }

    private static void run(String source) throws Exception {
        Path folder = Files.createTempDirectory("readme");
        Path file = folder.resolve("Example.java");
        Files.writeString(file, source);
        int ended = ToolProvider.findFirst("javac").orElseThrow().run(System.out, System.out,
                "-cp", System.getProperty("java.class.path"), "-d", folder.toString(), file.toString());
        due("the example compiles", ended, 0);
        calls--;
        if (ended == 0) {
            try (URLClassLoader loader = new URLClassLoader(new URL[] {folder.toUri().toURL()})) {
                loader.loadClass("Example").getMethod("main", String[].class).invoke(null, (Object) new String[0]);
            }
        }
        remove(folder);
    }

    private static void remove(Path folder) throws IOException {
        for (String name : List.of("Example.java", "Example.class")) {
            Files.deleteIfExists(folder.resolve(name));
        }
        Files.delete(folder);
    }

    public static void due(String what, long got, long want) {
        calls++;
        if (got != want) {
            wrong++;
            System.out.println(what + " answered " + got + ", due is " + want);
        }
    }

    public static void due(String what, boolean got, boolean want) {
        due(what, got ? 1L : 0L, want ? 1L : 0L);
    }
}
