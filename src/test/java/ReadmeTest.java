import java.io.IOException;
import java.lang.reflect.Method;
import java.nio.file.Files;
import java.nio.file.Path;
import java.util.ArrayList;
import java.util.List;
import java.util.Set;
import java.util.TreeSet;
import java.util.regex.Matcher;
import java.util.regex.Pattern;

/** README.md: every call of its example answers what stands beside it, and no method goes untold. */
public final class ReadmeTest {
    private static final Check CHECK = new Check();
    private static final Pattern MADE =
        Pattern.compile("SuccessTyping s = new SuccessTyping\\((.*)\\);.*");
    private static final Pattern CALL =
        Pattern.compile("s\\.(\\w+)\\((.*?)\\); *(?://( answers ([-\\w]+))?.*)?");
    private static final String CLASS = "SuccessTyping.";

    private static SuccessTyping s;

    public static void main(String[] args) throws IOException, ReflectiveOperationException {
        String text = Files.readString(Path.of("README.md"));
        for (String line : example(text)) {
            follow(line);
        }
        Set<String> untold = new TreeSet<>();
        for (Method method : SuccessTyping.class.getMethods()) {
            boolean own = method.getDeclaringClass() == SuccessTyping.class;
            if (own && !text.contains("`" + method.getName() + "(")) {
                untold.add(method.getName());
            }
        }
        CHECK.due("the methods of which README.md says nothing", untold.toString(), "[]");
        CHECK.finish();
    }

    private static List<String> example(String text) {
        List<String> lines = new ArrayList<>();
        String code = text.substring(text.indexOf("```java\n") + 8);
        for (String line : code.substring(0, code.indexOf("```")).split("\n")) {
            if (!line.isBlank()) {
                lines.add(line);
            }
        }
        return lines;
    }

    private static void follow(String line) throws ReflectiveOperationException {
        Matcher made = MADE.matcher(line);
        Matcher call = CALL.matcher(line);
        if (made.matches()) {
            Object[] sizes = numbers(made.group(1));
            s = new SuccessTyping((int) sizes[0], (int) sizes[1]);
        } else if (call.matches()) {
            Object got = call(call.group(1), numbers(call.group(2)));
            // A call without an answer beside it is at least not a refused one.
            String due = call.group(4) == null ? "true" : call.group(4);
            CHECK.due(line, got.toString(), value(due));
        } else {
            CHECK.due("a line that is a call", line, "s.call(...);");
        }
    }

    private static Object call(String name, Object[] operands) throws ReflectiveOperationException {
        Class<?>[] types = new Class<?>[operands.length];
        java.util.Arrays.fill(types, int.class);
        return SuccessTyping.class.getMethod(name, types).invoke(s, operands);
    }

    private static Object[] numbers(String list) throws ReflectiveOperationException {
        if (list.isBlank()) {
            return new Object[0];
        }
        String[] parts = list.split(", ");
        Object[] numbers = new Object[parts.length];
        for (int i = 0; i < parts.length; i++) {
            numbers[i] = Integer.valueOf(value(parts[i].replace(CLASS, "")));
        }
        return numbers;
    }

    /** A constant's number, and anything else as it stands. */
    private static String value(String word) throws ReflectiveOperationException {
        boolean constant = word.matches("[A-Z][A-Z0-9_]*");
        return constant ? SuccessTyping.class.getField(word).get(null).toString() : word;
    }
}
