import java.io.IOException;
import java.lang.reflect.Method;
import java.lang.reflect.Modifier;
import java.nio.file.Files;
import java.nio.file.Path;
import java.util.Arrays;
import java.util.Set;
import java.util.TreeSet;
import java.util.regex.Matcher;
import java.util.regex.Pattern;
import java.util.stream.Stream;

/** What README.md shows of the class and of its tests is so: it is played from the text itself, not from a copy. */
public final class ReadmeTest {
    private static final int MOST_CALLS = 512;
    private static final String MADE = "BurstWords words = new BurstWords();";
    private static final Pattern BLOCK = Pattern.compile("(?ms)^```java\n(.*?)^```$");
    private static final Pattern CALL =
            Pattern.compile("words\\.(\\w+)\\(([^)]*)\\); +// (-?\\d+|'[a-z]'|BAD|STATE|FULL|NONE)(: .*)?");
    private static final Pattern NUMBER = Pattern.compile("-?\\d+|'[a-zA-Z]'");
    private static final Pattern CONSTANT = Pattern.compile("`(BAD|STATE|FULL|NONE)` \\((-?\\d+)\\b");

    private final Checks checks = new Checks();
    private final Set<String> shown = new TreeSet<>();
    private BurstWords words = null;
    private int used = 0;

    public static void main(String[] args) throws IOException, ReflectiveOperationException {
        String text = Files.readString(Path.of("README.md"));
        ReadmeTest test = new ReadmeTest();
        test.use(text);
        test.wholeFace();
        test.constants(text);
        test.namedTests(text);
        test.checks.finish();
    }

    private void use(String text) throws ReflectiveOperationException {
        Matcher block = BLOCK.matcher(text);
        while (block.find()) {
            for (String line : block.group(1).split("\n")) {
                show(line);
            }
        }
        checks.holds("README.md shows a use", words != null);
        checks.holds("README.md uses an object for " + used + " calls", used <= MOST_CALLS);
    }

    private void show(String line) throws ReflectiveOperationException {
        if (line.equals(MADE)) {
            words = new BurstWords();
            used = 0;
            return;
        }
        Matcher call = CALL.matcher(line);
        boolean understood = call.matches() && words != null;
        checks.holds("a call of an object that is there, and its answer: " + line, understood);
        if (understood) {
            checks.due("README.md, " + line, answer(line, call.group(1), call.group(2)), valueOf(call.group(3)));
            shown.add(call.group(1));
            used++;
        }
    }

    private long answer(String line, String name, String between) throws ReflectiveOperationException {
        String[] told = between.isEmpty() ? new String[0] : between.split(", ");
        Object[] numbers = new Object[told.length];
        for (int n = 0; n < told.length; n++) {
            checks.holds("a number or a letter, " + told[n] + ": " + line, NUMBER.matcher(told[n]).matches());
            numbers[n] = (int) valueOf(told[n]);
        }
        Class<?>[] types = new Class<?>[told.length];
        Arrays.fill(types, int.class);
        return ((Number) BurstWords.class.getMethod(name, types).invoke(words, numbers)).longValue();
    }

    private static long valueOf(String told) throws ReflectiveOperationException {
        if (told.startsWith("'")) {
            return told.charAt(1);
        }
        return Character.isUpperCase(told.charAt(0))
                ? BurstWords.class.getField(told).getInt(null) : Long.parseLong(told);
    }

    private void wholeFace() {
        for (Method method : BurstWords.class.getDeclaredMethods()) {
            if (Modifier.isPublic(method.getModifiers())) {
                checks.holds("README.md shows " + method.getName() + "()", shown.contains(method.getName()));
            }
        }
    }

    private void constants(String text) throws ReflectiveOperationException {
        Set<String> told = new TreeSet<>();
        Matcher constant = CONSTANT.matcher(text);
        while (constant.find()) {
            told.add(constant.group(1));
            checks.due("README.md, " + constant.group(1), valueOf(constant.group(2)), valueOf(constant.group(1)));
        }
        checks.due("constants that README.md tells", told.size(), 4);
    }

    private void namedTests(String text) throws IOException {
        Set<String> named = new TreeSet<>();
        Matcher name = Pattern.compile("`(\\w+Test)`").matcher(text);
        while (name.find()) {
            named.add(name.group(1));
        }
        Set<String> there = new TreeSet<>();
        try (Stream<Path> files = Files.list(Path.of("src/test/java"))) {
            files.map(file -> file.getFileName().toString()).filter(file -> file.endsWith("Test.java"))
                    .forEach(file -> there.add(file.substring(0, file.length() - ".java".length())));
        }
        checks.holds("README.md names " + named + ", there are " + there, named.equals(there));
    }
}
