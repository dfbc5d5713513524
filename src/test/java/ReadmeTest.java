import java.io.IOException;
import java.lang.reflect.InvocationTargetException;
import java.lang.reflect.Method;
import java.nio.file.Files;
import java.nio.file.Path;
import java.util.ArrayList;
import java.util.List;
import java.util.Set;
import java.util.TreeSet;
import java.util.regex.Matcher;
import java.util.regex.Pattern;

/** The example of README.md: each of its calls is done, each answer told behind it is looked at; every call is in it. */
public final class ReadmeTest {
    private static final Pattern BLOCK = Pattern.compile("(?s)```java\n(.*?)```");
    private static final Pattern MADE = Pattern.compile("PressSheets sheets = new PressSheets\\(\\);.*");
    private static final Pattern CALL = Pattern.compile("sheets\\.(\\w+)\\((.*)\\);\\s*// (-?\\d+): \\S.*");
    private static final Check CHECK = new Check("ReadmeTest");

    public static void main(String[] args) throws IOException {
        String readme = Files.readString(Path.of("README.md"));
        CHECK.holds("README.md tells how the tests are run", readme.contains("\nbash .ci/run\n"));
        Set<String> asked = new TreeSet<>();
        Matcher block = BLOCK.matcher(readme);
        while (block.find()) {
            PressSheets sheets = null;
            for (String line : block.group(1).split("\n")) {
                sheets = MADE.matcher(line).matches() ? new PressSheets() : sheets;
                lookAt(line, sheets, asked);
            }
        }
        for (Method method : PressSheets.class.getDeclaredMethods()) {
            boolean shown = (method.getModifiers() & java.lang.reflect.Modifier.PUBLIC) == 0 || asked.contains(method.getName());
            CHECK.holds("README.md shows " + method.getName(), shown);
        }
        CHECK.end();
    }

    /** A line is empty, a comment, the making of the object, or a call with its answer. */
    private static void lookAt(String line, PressSheets sheets, Set<String> asked) {
        if (line.isBlank() || line.startsWith("//") || MADE.matcher(line).matches()) {
            return;
        }
        Matcher call = CALL.matcher(line);
        boolean isCall = call.matches() && sheets != null;
        CHECK.holds("a call with its answer: " + line, isCall);
        if (isCall) {
            asked.add(call.group(1));
            CHECK.due(line, answer(sheets, call.group(1), call.group(2)), Long.parseLong(call.group(3)));
        }
    }

    private static long answer(PressSheets sheets, String name, String told) {
        List<Long> numbers = new ArrayList<>();
        for (String one : told.isEmpty() ? new String[0] : told.split(", ")) {
            // a sign may be told as one: 'n'
            numbers.add(one.startsWith("'") ? (long) one.charAt(1) : Long.parseLong(one));
        }
        for (Method method : PressSheets.class.getDeclaredMethods()) {
            if (method.getName().equals(name) && method.getParameterCount() == numbers.size()) {
                return invoked(method, sheets, numbers);
            }
        }
        CHECK.holds("there is a call " + name + "(" + told + ")", false);
        return 0;
    }

    private static long invoked(Method method, PressSheets sheets, List<Long> numbers) {
        Object[] given = new Object[numbers.size()];
        for (int k = 0; k < given.length; k++) {
            boolean isInt = method.getParameterTypes()[k] == int.class;
            given[k] = isInt ? (Object) numbers.get(k).intValue() : (Object) numbers.get(k);
        }
        try {
            return ((Number) method.invoke(sheets, given)).longValue();
        } catch (IllegalAccessException | InvocationTargetException e) {
            CHECK.holds(method + " answers, and throws nothing", false);
            return 0;
        }
    }
}
