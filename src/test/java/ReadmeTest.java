import java.io.IOException;
import java.lang.reflect.InvocationTargetException;
import java.lang.reflect.Method;
import java.nio.file.Files;
import java.nio.file.Path;
import java.util.HashMap;
import java.util.List;
import java.util.Map;
import java.util.regex.Matcher;
import java.util.regex.Pattern;

/** Plays the calls of README.md, in the project's directory, and wants the answers that it tells. */
public final class ReadmeTest extends Checks {
    private static final Pattern MAKING = Pattern.compile("CodePruner p = new CodePruner\\(\\); +// .+");
    private static final Pattern CALL = Pattern.compile("(?:int (\\w+) = )?p\\.(\\w+)\\((.*)\\); +// (.+)");
    private static final Pattern TOLD = Pattern.compile("(throws \\w+|true|false|-?\\d+)\\b.*");
    private static final int FEWEST_CALLS = 50;

    private static final Map<String, Integer> NUMBERS = new HashMap<>();
    private static CodePruner p = null;
    private static int calls = 0;

    public static void main(String[] args) throws IOException, IllegalAccessException {
        boolean isCode = false;
        for (String line : readReadme()) {
            if (line.startsWith("```")) {
                isCode = line.equals("```java");
            } else if (isCode) {
                play(line);
            }
        }
        due("enough calls were found", calls >= FEWEST_CALLS, true);
        finish();
    }

    private static List<String> readReadme() throws IOException {
        return Files.readAllLines(Path.of("README.md"));
    }

    private static void play(String line) throws IllegalAccessException {
        Matcher call = CALL.matcher(line);
        if (MAKING.matcher(line).matches()) {
            p = new CodePruner();
        } else if (call.matches() && p != null) {
            calls++;
            Object got = make(call.group(2), call.group(3));
            due(line, got, told(call.group(2), call.group(4)));
            if (call.group(1) != null) {
                NUMBERS.put(call.group(1), (Integer) got);
            }
        } else {
            due(line, "no call", "a call on the object that was made");
        }
    }

    private static Object make(String name, String given) throws IllegalAccessException {
        String[] words = given.isEmpty() ? new String[0] : given.split(", ");
        Object[] arguments = new Object[words.length];
        for (int i = 0; i < words.length; i++) {
            arguments[i] = argument(words[i]);
        }
        try {
            Object got = method(name).invoke(p, arguments);
            return got == null ? DONE : got;
        } catch (InvocationTargetException e) {
            return "throws." + e.getCause().getClass().getSimpleName();
        }
    }

    private static Object argument(String word) {
        if (word.equals("true") || word.equals("false")) {
            return word.equals("true");
        }
        return NUMBERS.containsKey(word) ? NUMBERS.get(word) : Integer.valueOf(word);
    }

    private static Method method(String name) {
        for (Method m : CodePruner.class.getMethods()) {
            if (m.getName().equals(name)) {
                return m;
            }
        }
        throw new AssertionError("no such call: " + name);
    }

    /** What stands behind end and clear is no answer, unless they throw. */
    private static Object told(String name, String comment) {
        Matcher first = TOLD.matcher(comment);
        if (first.matches()) {
            String word = first.group(1);
            if (word.startsWith("throws ")) {
                return word.replace(' ', '.');
            }
            return word.equals("true") || word.equals("false") ? word.equals("true") : Integer.valueOf(word);
        }
        return name.equals("end") || name.equals("clear") ? DONE : "an answer that is told";
    }
}
