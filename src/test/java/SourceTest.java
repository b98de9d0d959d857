import java.io.IOException;
import java.nio.charset.StandardCharsets;
import java.nio.file.Files;
import java.nio.file.Path;
import java.util.List;
import java.util.Set;
import java.util.regex.Matcher;
import java.util.regex.Pattern;

/** What LANGUAGE.md keeps out of the source, as far as a plain look at the text can tell. */
public final class SourceTest {
    private static final List<String> NEVER = List.of(
            "->", "::", "\\binstanceof\\b", "\\bcatch\\b", "\\btry\\b", "\\bfinally\\b", "\\bassert\\b",
            "\\bsynchronized\\b", "\\bdouble\\b", "\\bfloat\\b", "\\bvar\\b", "\\brecord\\b", "\\bvolatile\\b",
            "\\bprotected\\b", "\\byield\\b", "\\blambda\\b", "\\bObject\\b", "\\bClass\\b", "\\bThread\\b",
            "\" *\\+", "\\+ *\"", "Exact\\b", "\\.toString\\(", "\\.hashCode\\(", "\\.equals\\(", "\\bstatic \\{",
            "\\bwhile \\(true\\)", "for \\(;;\\)");
    private static final Set<String> LIBRARY = Set.of(
            "System.arraycopy", "Math.min", "Math.max", "Integer.bitCount");
    private static int wrong = 0;

    public static void main(String[] args) throws IOException {
        Path file = Path.of(args.length > 0 ? args[0] : "src/main/java/SoulOffice.java");
        String source = Files.readString(file, StandardCharsets.US_ASCII);
        String code = source.replaceAll("(?s)/\\*.*?\\*/", "").replaceAll("//[^\n]*", "");
        for (String never : NEVER) {
            Matcher m = Pattern.compile(never).matcher(code);
            check(!m.find(), "no " + never);
        }
        Matcher imports = Pattern.compile("import ([\\w.]+);").matcher(code);
        while (imports.find()) {
            check(imports.group(1).equals("java.util.NoSuchElementException"), "import " + imports.group(1));
        }
        Matcher library = Pattern.compile("\\b(System|Math|Integer|Long|Arrays|List|String|Character)\\.(\\w+)").matcher(code);
        while (library.find()) {
            check(LIBRARY.contains(library.group()), "library: " + library.group());
        }
        Matcher thrown = Pattern.compile("throw (new \\w+)").matcher(code);
        while (thrown.find()) {
            check(thrown.group(1).equals("new NoSuchElementException"), thrown.group());
        }
        check(code.split("\\bclass \\w+ \\{").length - 1 <= 12, "twelve classes at most");
        checkMethods(code);
        System.out.println(wrong == 0 ? "the source is as told" : wrong + " wrong");
        System.exit(wrong == 0 ? 0 : 1);
    }

    /** Sixty lines and seven parameters at most. */
    private static void checkMethods(String code) {
        Matcher head = Pattern.compile("(?m)^( +)(?:[\\w\\[\\]]+ )*(\\w+)\\(([^()]*)\\)[^;{}]*\\{\n").matcher(code);
        int found = 0;
        while (head.find()) {
            if (Set.of("if", "for", "while", "switch").contains(head.group(2))) {
                continue;
            }
            int end = code.indexOf("\n" + head.group(1) + "}", head.end() - 1);
            long lines = code.substring(head.end(), Math.max(head.end(), end)).lines().count();
            check(lines <= 60, head.group(2) + " has " + lines + " lines");
            check(head.group(3).split(",").length <= 7, head.group(2) + " has seven parameters at most");
            // Rule 8 lets a method call itself only if it is static; others may call one another.
            String body = code.substring(head.end(), Math.max(head.end(), end));
            boolean callsItself = Pattern.compile("(?<![.\\w])" + head.group(2) + "\\(").matcher(body).find();
            check(!callsItself || head.group().contains(" static "), head.group(2) + " calls itself");
            found++;
        }
        check(found > 100, "methods are found: " + found);
    }

    private static void check(boolean holds, String what) {
        if (!holds) {
            wrong++;
            System.out.println("not so: " + what);
        }
    }
}
