import java.lang.reflect.Constructor;
import java.lang.reflect.Field;
import java.lang.reflect.Method;
import java.lang.reflect.Modifier;
import java.nio.file.Files;
import java.nio.file.Path;
import java.util.ArrayList;
import java.util.Arrays;
import java.util.Collections;
import java.util.List;
import java.util.regex.Matcher;
import java.util.regex.Pattern;

/** The face of the class, and the rules of LANGUAGE.md that can be seen in it from outside. */
public final class LanguageTest {
    private static final Due due = new Due("LanguageTest");
    private static final List<String> FACE = List.of(
        "act(5)", "alter(6)", "clear(0)", "copy(1)", "fault(0)", "feed(1)", "like(2)", "of(2)", "out(1)",
        "ran(1)", "routine(0)", "run(2)", "set(2)", "statement(3)", "text(2)", "told(3)", "write(0)");
    private static final String[] BANNED = {
        "import", "throw", "throws", "try", "catch", "finally", "synchronized", "assert", "protected", "volatile",
        "hashCode", "toString", "System.out", "Thread", "Random", "Exact", "->", "::", "double", "float"};

    public static void main(String[] args) throws Exception {
        face();
        members();
        for (Class<?> inside : StoryDecompile.class.getDeclaredClasses()) {
            nested(inside);
        }
        source(Files.readString(Path.of("src/main/java/StoryDecompile.java")));
        due.end();
    }

    private static void face() {
        List<String> open = new ArrayList<>();
        for (Method m : StoryDecompile.class.getDeclaredMethods()) {
            if (!Modifier.isPrivate(m.getModifiers())) {
                open.add(m.getName() + "(" + m.getParameterCount() + ")");
                due.holds(m + " is public and answers an int",
                    Modifier.isPublic(m.getModifiers()) && m.getReturnType() == int.class);
            }
        }
        Collections.sort(open);
        due.holds("the face is " + open, open.equals(FACE));
        Constructor<?>[] made = StoryDecompile.class.getDeclaredConstructors();
        due.holds("one public constructor", made.length == 1 && made[0].getParameterCount() == 0
            && Modifier.isPublic(made[0].getModifiers()));
        due.holds("a public final class", Modifier.isFinal(StoryDecompile.class.getModifiers())
            && Modifier.isPublic(StoryDecompile.class.getModifiers()));
    }

    private static void members() {
        List<String> constants = new ArrayList<>();
        for (Field f : StoryDecompile.class.getDeclaredFields()) {
            if (!Modifier.isPrivate(f.getModifiers())) {
                constants.add(f.getName());
            }
            due.holds(f + " is final if it is static",
                !Modifier.isStatic(f.getModifiers()) || Modifier.isFinal(f.getModifiers()));
        }
        Collections.sort(constants);
        due.holds("constants", constants.equals(Arrays.asList("BAD", "FULL", "NO", "NONE")));
        ownMethods(StoryDecompile.class);
    }

    private static void nested(Class<?> inside) {
        due.holds(inside + " is static", Modifier.isStatic(inside.getModifiers()));
        int fields = 0;
        for (Field f : inside.getDeclaredFields()) {
            due.holds(f + " is not static", !Modifier.isStatic(f.getModifiers()));
            fields++;
        }
        due.holds(inside + " has some twenty fields at most", fields <= 20);
        ownMethods(inside);
    }

    private static void ownMethods(Class<?> of) {
        for (Method m : of.getDeclaredMethods()) {
            due.holds(m + " has seven parameters at most", m.getParameterCount() <= 7);
            boolean own = of != StoryDecompile.class || Modifier.isPrivate(m.getModifiers());
            boolean named = FACE.stream().anyMatch(f -> f.startsWith(m.getName() + "("));
            due.holds(m + " has no name of the face", !(own && named));
        }
    }

    private static void source(String text) {
        String code = text.replaceAll("(?s)/\\*.*?\\*/", "").replaceAll("//.*", "");
        for (String word : BANNED) {
            boolean isWord = Character.isLetter(word.charAt(0));
            String pattern = isWord ? "\\b" + Pattern.quote(word) + "\\b" : Pattern.quote(word);
            due.holds("no " + word, !Pattern.compile(pattern).matcher(code).find());
        }
        due.holds("twelve classes at most", count(code, "\\bclass\\b") <= 12);
        due.holds("no while without a counter", count(code, "\\bwhile\\b") == 0);
        due.holds("characters 0 to 255 alone", text.chars().allMatch(c -> c < 256));
        methodLengths(text.split("\n"));
    }

    private static int count(String code, String pattern) {
        int found = 0;
        for (Matcher m = Pattern.compile(pattern).matcher(code); m.find();) {
            found++;
        }
        return found;
    }

    /** A method ends at a line with a brace alone that stands as far in as the line that begins it. */
    private static void methodLengths(String[] lines) {
        for (int i = 0; i < lines.length; i++) {
            String line = lines[i];
            if (line.endsWith(") {") && line.matches(" {4}( {4})?[a-z].*") && !line.matches(" *(if|for|switch).*")) {
                String indent = line.substring(0, line.indexOf(line.trim()));
                int end = i;
                while (end < lines.length && !lines[end].equals(indent + "}")) {
                    end++;
                }
                due.holds("short: " + line.trim(), end - i <= 60);
            }
        }
    }
}
