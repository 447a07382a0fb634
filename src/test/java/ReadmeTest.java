import java.lang.reflect.Method;
import java.lang.reflect.Modifier;
import java.nio.file.Files;
import java.nio.file.Path;
import java.util.HashMap;
import java.util.Map;
import java.util.regex.Matcher;
import java.util.regex.Pattern;

/** The example in README.md answers what it says there, and every method has a row in its table. */
public final class ReadmeTest {
    private static final Due due = new Due("ReadmeTest");
    private static final Pattern CALL = Pattern.compile("(?:int (\\w+) = )?x\\.(\\w+)\\((.*?)\\); +// (-?\\d+)\\b.*");

    private final StoryDecompile x = new StoryDecompile();
    private final Map<String, Integer> names = new HashMap<>();

    public static void main(String[] args) throws Exception {
        String text = Files.readString(Path.of("README.md"));
        new ReadmeTest().example(text);
        for (Method method : StoryDecompile.class.getDeclaredMethods()) {
            if (Modifier.isPublic(method.getModifiers())) {
                String row = "(?m)^\\|.*`" + method.getName() + "\\(" + parameters(method) + "\\)`";
                due.holds(method + " is in the table", Pattern.compile(row).matcher(text).find());
            }
        }
        due.holds("the command that runs the tests", text.contains("\n    .ci/run\n"));
        due.holds("the command is there", Files.isExecutable(Path.of(".ci/run")));
        due.end();
    }

    private static String parameters(Method method) {
        return "(, )?\\w+".repeat(method.getParameterCount());
    }

    private void example(String text) throws Exception {
        names.put("StoryDecompile.NONE", StoryDecompile.NONE);
        String begin = "```java\nStoryDecompile x = new StoryDecompile();\n";
        int from = text.indexOf(begin);
        int to = text.indexOf("```", from + begin.length());
        due.holds("there is an example", from >= 0 && to > from);
        for (String line : text.substring(from + begin.length(), to).split("\n")) {
            Matcher call = CALL.matcher(line);
            due.holds("a call with its answer: " + line, call.matches());
            if (call.matches()) {
                int answer = answerOf(call.group(2), call.group(3));
                due.is(line, answer, Integer.parseInt(call.group(4)));
                names.put(call.group(1), answer);
            }
        }
    }

    private int answerOf(String name, String arguments) throws Exception {
        String[] parts = arguments.isEmpty() ? new String[0] : arguments.split(", ");
        Class<?>[] types = new Class<?>[parts.length];
        Object[] values = new Object[parts.length];
        for (int i = 0; i < parts.length; i++) {
            types[i] = int.class;
            values[i] = names.containsKey(parts[i]) ? names.get(parts[i]) : Integer.valueOf(parts[i]);
        }
        return (Integer) StoryDecompile.class.getMethod(name, types).invoke(x, values);
    }
}
