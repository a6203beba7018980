import java.io.IOException;
import java.lang.reflect.Constructor;
import java.lang.reflect.Field;
import java.lang.reflect.Method;
import java.lang.reflect.Modifier;
import java.nio.file.Files;
import java.nio.file.Path;
import java.util.List;
import java.util.Set;
import java.util.TreeSet;
import java.util.regex.Matcher;
import java.util.regex.Pattern;
import java.util.stream.Collectors;

/** The public face, and those rules of ../shared/LANGUAGE.md that can be seen from names and words. */
public final class FaceTest {
    private static final Path PROGRAM = Path.of("src/main/java/OldStadium.java");
    private static final Set<String> FACE = Set.of("int runner(int)", "int judge(int)", "int contest(int,int,int)",
        "int heat(int)", "int lane(int,int)", "int count(int)", "boolean winner(int,int)", "boolean vote(int,int,int)",
        "int decide(int)", "int next()", "boolean five(int)", "int event(int)", "int athlete(int,int)", "int won()",
        "boolean track(int,int,int)", "int chariot(int,int)", "int drive(int,int,int)", "int run(int)",
        "int at(int,int)", "int stone(int,int,int,int,int,int)", "boolean join(int,int,boolean)", "int span(int)",
        "int lose(int)", "int agree(int,int)", "int rolls()", "int year(int,int)", "int wrong()", "int letter(int,int)");

    public static void main(String[] args) throws IOException {
        face();
        inside();
        words();
        Check.end();
    }

    private static void face() {
        Check.is("NONE", OldStadium.NONE, -1);
        int of = OldStadium.class.getModifiers();
        Check.is("public and final", Modifier.isPublic(of) && Modifier.isFinal(of), true);
        Set<String> open = new TreeSet<>();
        for (Method m : OldStadium.class.getDeclaredMethods()) {
            if (!Modifier.isPrivate(m.getModifiers()) && !m.isSynthetic()) {
                open.add(textOf(m));
                Check.is(m.getName() + " is public", Modifier.isPublic(m.getModifiers()), true);
                Check.is(m.getName() + " is static", Modifier.isStatic(m.getModifiers()), false);
            }
        }
        Check.is("the face", open.toString(), new TreeSet<>(FACE).toString());
        for (Field f : OldStadium.class.getDeclaredFields()) {
            boolean right = f.getName().equals("NONE") ? Modifier.isPublic(f.getModifiers())
                : Modifier.isPrivate(f.getModifiers()) || f.isSynthetic();
            Check.is("field " + f.getName(), right, true);
        }
        Constructor<?>[] made = OldStadium.class.getDeclaredConstructors();
        Check.is("constructors", made.length, 1);
        Check.is("its parameters", made[0].getParameterCount(), 0);
        Check.is("it is public", Modifier.isPublic(made[0].getModifiers()), true);
    }

    private static String textOf(Method m) {
        String types = List.of(m.getParameterTypes()).stream().map(Class::getName).collect(Collectors.joining(","));
        return m.getReturnType().getName() + " " + m.getName() + "(" + types + ")";
    }

    private static void inside() {
        Set<String> names = FACE.stream().map(s -> s.replaceAll(".* |\\(.*", "")).collect(Collectors.toSet());
        Class<?>[] all = OldStadium.class.getDeclaredClasses();
        Check.is("at most twelve classes", all.length < 12, true);
        for (Class<?> c : all) {
            Check.is(c.getName() + " is static", Modifier.isStatic(c.getModifiers()), true);
            Check.is(c.getName() + " is open", Modifier.isPublic(c.getModifiers()), false);
            int fields = 0;
            for (Field f : c.getDeclaredFields()) {
                boolean constant = Modifier.isStatic(f.getModifiers());
                fields += constant ? 0 : 1;
                Check.is(f + " is final", !constant || Modifier.isFinal(f.getModifiers()), true);
            }
            Check.is(c.getName() + " has few fields", fields <= 20, true);
            for (Method m : c.getDeclaredMethods()) {
                Check.is(m + " bears a name of the face", names.contains(m.getName()), false);
                Check.is(m + " has few parameters", m.getParameterCount() <= 7, true);
            }
        }
    }

    private static void words() throws IOException {
        String code = Files.readString(PROGRAM).replaceAll("(?s)/\\*.*?\\*/|//[^\n]*", " ");
        String[] barred = {"throw", "throws", "try", "catch", "finally", "synchronized", "assert", "native", "volatile",
            "transient", "package", "Object", "System", "Random", "Thread", "\\w+Exact"};
        for (String word : barred) {
            Check.is("the word " + word, Pattern.compile("\\b" + word + "\\b").matcher(code).find(), false);
        }
        Check.is("no lambda, no method reference", code.contains("->") || code.contains("::"), false);
        Matcher imports = Pattern.compile("import\\s+([\\w.]+)\\s*;").matcher(code);
        while (imports.find()) {
            Check.is("import " + imports.group(1), imports.group(1).equals("java.util.Arrays"), true);
        }
        Check.is("signs are 1 to 127", code.chars().allMatch(sign -> sign > 0 && sign < 128), true);
    }
}
