import java.io.IOException;
import java.lang.reflect.Method;
import java.lang.reflect.Modifier;
import java.nio.file.Files;
import java.nio.file.Path;
import java.util.Set;
import java.util.TreeSet;
import java.util.regex.Matcher;
import java.util.regex.Pattern;

/** README.md tells the truth: each call of its examples answers what stands behind it, and no call is left out. */
public final class ReadmeTest {
    private static final String MADE = "OldStadium x = new OldStadium();";
    private static final Pattern CALL = Pattern.compile("x\\.(\\w+)\\(([^)]*)\\);\\s*// (-?\\d+|true|false)(\\s.*)?");
    private static final Set<String> asked = new TreeSet<>();

    public static void main(String[] args) throws ReflectiveOperationException, IOException {
        String text = Files.readString(Path.of("README.md"));
        Matcher example = Pattern.compile("(?s)```java\n(.*?)```").matcher(text);
        int examples = 0;
        while (example.find()) {
            play(example.group(1).split("\n"));
            examples++;
        }
        Check.is("examples", examples, 4);
        for (Method m : OldStadium.class.getDeclaredMethods()) {
            boolean isLeftOut = Modifier.isPublic(m.getModifiers()) && !asked.contains(m.getName());
            Check.is(m.getName() + " is left out", isLeftOut, false);
        }
        everyTestIsNamed(text);
        Check.end();
    }

    private static void play(String[] lines) throws ReflectiveOperationException {
        Check.is("an example's first line", lines[0], MADE);
        OldStadium x = new OldStadium();
        for (int i = 1; i < lines.length; i++) {
            Matcher call = CALL.matcher(lines[i]);
            Check.is("a call with its answer: " + lines[i], call.matches(), true);
            if (call.matches()) {
                Check.is(lines[i], answer(x, call.group(1), call.group(2)), call.group(3));
                asked.add(call.group(1));
            }
        }
    }

    private static String answer(OldStadium x, String name, String numbers) throws ReflectiveOperationException {
        String[] words = numbers.isEmpty() ? new String[0] : numbers.split(", ");
        Class<?>[] types = new Class<?>[words.length];
        Object[] values = new Object[words.length];
        for (int i = 0; i < words.length; i++) {
            boolean isWord = words[i].equals("true") || words[i].equals("false");
            types[i] = isWord ? boolean.class : int.class;
            values[i] = isWord ? (Object) Boolean.valueOf(words[i]) : (Object) Integer.decode(words[i]);
        }
        return String.valueOf(OldStadium.class.getMethod(name, types).invoke(x, values));
    }

    private static void everyTestIsNamed(String text) throws IOException {
        try (var files = Files.list(Path.of("src/test/java"))) {
            for (Path file : files.sorted().toList()) {
                String name = file.getFileName().toString().replace(".java", "");
                Check.is(name + " is named in README.md", text.contains("`" + name + "`"), true);
            }
        }
    }
}
