import java.io.IOException;
import java.nio.file.Files;
import java.nio.file.Path;
import java.util.regex.Matcher;
import java.util.regex.Pattern;

/** What of LANGUAGE.md can be read off the program's text. */
public final class LanguageTest {
    private static final String[] RULED_OUT = {
        "\\b(throw|throws|try|catch|finally|synchronized|assert|volatile|transient|native|protected|package)\\b",
        "->", "::", "\\bstatic\\s*\\{", "\\b(Object|Iterator|HashMap|TreeMap|Random|Thread|Runtime)\\b",
        "\\bSystem\\.(?!arraycopy\\b)", "\\bMath\\.(?!max\\b|min\\b)", "\\bArrays\\.(?!fill\\b)",
        "\\w+Exact\\b", "\\b(toString|equals|hashCode)\\b"};

    public static void main(String[] args) throws IOException {
        Checks checks = new Checks();
        String source = Files.readString(Path.of("src/main/java/BurstWords.java"));
        String code = source.replaceAll("(?s)/\\*.*?\\*/", " ").replaceAll("//[^\n]*", " ");
        for (String pattern : RULED_OUT) {
            Matcher found = Pattern.compile(pattern).matcher(code);
            boolean there = found.find();
            checks.holds("ruled out: " + (there ? found.group() : pattern), !there);
        }
        checks.holds("signs of the text are 1 to 127", source.chars().allMatch(c -> c < 128));
        imports(checks, code);
        methodLengths(checks, code);
        newOnlyInFields(checks, code);
        checks.finish();
    }

    private static void imports(Checks checks, String code) {
        Matcher found = Pattern.compile("import\\s+([^;]+);").matcher(code);
        while (found.find()) {
            checks.holds("import of " + found.group(1), found.group(1).equals("java.util.Arrays"));
        }
    }

    /** Methods begin with four or eight blanks and end with a brace as far in. */
    private static void methodLengths(Checks checks, String code) {
        String head = "(?m)^( {4}| {8})(?! )(?!.*\\bclass\\b)[^\n=]*\\) \\{\n";
        Matcher found = Pattern.compile(head + "(?s)(.*?)\n\\1\\}").matcher(code);
        int methods = 0;
        while (found.find()) {
            methods++;
            int lines = found.group().split("\n").length;
            checks.holds("a method of " + lines + " lines: " + found.group().split("\n")[0], lines <= 60);
        }
        checks.holds("methods were found: " + methods, methods > 60);
    }

    /** All rows are made with the object, so that no call makes anything. */
    private static void newOnlyInFields(Checks checks, String code) {
        for (String line : code.split("\n")) {
            if (line.contains("new ")) {
                checks.holds("made in a field: " + line, line.trim().startsWith("private final "));
            }
        }
    }
}
