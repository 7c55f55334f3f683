import java.io.IOException;
import java.lang.reflect.Method;
import java.nio.charset.StandardCharsets;
import java.nio.file.Files;
import java.nio.file.Path;
import java.util.HashMap;
import java.util.List;
import java.util.Map;
import java.util.Set;
import java.util.TreeSet;
import java.util.regex.Matcher;
import java.util.regex.Pattern;

/**
 * The example of README.md, line by line on one object: a line "x.call(numbers); // answer" must answer that. It is
 * run from the project's folder, as .ci/run does.
 */
public final class TapeEndReadme {
    private static final Pattern CALL = Pattern.compile("x\\.(\\w+)\\(([-0-9, ]*)\\); +// (-?\\d+|[A-Z]+)(:.*)?");
    private static final Pattern TEXT = Pattern.compile("String text = \"(.*)\";");
    private static final Map<String, Long> NAMED = Map.of("NONE", (long) TapeEnd.NONE, "BAD", (long) TapeEnd.BAD,
            "STATE", (long) TapeEnd.STATE, "FULL", (long) TapeEnd.FULL);
    private static final Map<String, Method> METHODS = new HashMap<>();

    private static int asked = 0;
    private static int wrong = 0;

    private static void tellWrong(String words) {
        wrong++;
        System.out.println("README.md: " + words);
    }

    private static long call(TapeEnd x, String name, String numbers) throws ReflectiveOperationException {
        String[] parts = numbers.isEmpty() ? new String[0] : numbers.split(", ");
        Object[] boxed = new Object[parts.length];
        for (int i = 0; i < parts.length; i++) {
            boxed[i] = Integer.valueOf(parts[i]);
        }
        return ((Number) METHODS.get(name).invoke(x, boxed)).longValue();
    }

    private static void look(TapeEnd x, String line, Set<String> called) throws ReflectiveOperationException {
        Matcher text = TEXT.matcher(line);
        Matcher call = CALL.matcher(line);
        if (text.matches()) {
            for (char letter : text.group(1).toCharArray()) {
                x.feed(letter);
            }
        } else if (call.matches()) {
            String told = call.group(3);
            long want = NAMED.containsKey(told) ? NAMED.get(told) : Long.parseLong(told);
            long got = call(x, call.group(1), call.group(2));
            called.add(call.group(1));
            asked++;
            if (got != want) {
                tellWrong(line + " answered " + got);
            }
        } else if (line.startsWith("x.")) {
            tellWrong("a line without an answer: " + line);
        }
    }

    public static void main(String[] args) throws IOException, ReflectiveOperationException {
        for (Method method : TapeEnd.class.getMethods()) {
            METHODS.put(method.getName(), method);
        }
        TapeEnd x = new TapeEnd();
        Set<String> called = new TreeSet<>();
        boolean within = false;
        List<String> lines = Files.readAllLines(Path.of("README.md"), StandardCharsets.UTF_8);
        for (String line : lines) {
            if (line.startsWith("```")) {
                within = line.equals("```java");
            } else if (within) {
                look(x, line, called);
            }
        }
        for (String due : List.of("roll", "touch", "go", "likely", "rule", "ask", "trace", "undo", "restore")) {
            if (!called.contains(due)) {
                tellWrong("the example does not show " + due + "()");
            }
        }
        System.out.println(wrong == 0 ? asked + " lines of README.md answer as told" : wrong + " lines are wrong");
        if (wrong != 0) {
            System.exit(1);
        }
    }
}
