import java.io.IOException;
import java.lang.reflect.Method;
import java.lang.reflect.Modifier;
import java.nio.file.Files;
import java.nio.file.Path;
import java.util.regex.Matcher;
import java.util.regex.Pattern;

/** What README.md tells of the class: its example is run line by line, and each public method is named. */
public final class ReadmeTest {
    private static final Pattern CALL = Pattern.compile("desk\\.(\\w+)\\((.*)\\);\\s+// (-?\\d+): .+");

    private static final Check check = new Check();

    public static void main(String[] args) throws IOException, ReflectiveOperationException {
        String text = Files.readString(Path.of("README.md"));
        runExample(text);
        findEachCall(text);
        check.end();
    }

    private static void runExample(String text) throws ReflectiveOperationException {
        int start = text.indexOf("```java\n");
        int end = text.indexOf("```\n", start + 1);
        check.holds("there is an example", start >= 0 && end > start);
        if (start < 0 || end <= start) {
            return;
        }
        FeedDesk desk = new FeedDesk();
        for (String line : text.substring(start, end).split("\n")) {
            if (!line.startsWith("desk.")) {
                continue;
            }
            Matcher call = CALL.matcher(line);
            boolean isCall = call.matches();
            check.holds("a call with its answer: " + line, isCall);
            if (isCall) {
                check.due(line, answer(desk, call.group(1), call.group(2)), Long.parseLong(call.group(3)));
            }
        }
    }

    private static long answer(FeedDesk desk, String name, String written) throws ReflectiveOperationException {
        String[] words = written.isEmpty() ? new String[0] : written.split(", ");
        Class<?>[] types = new Class<?>[words.length];
        Object[] values = new Object[words.length];
        for (int i = 0; i < words.length; i++) {
            boolean isTruth = words[i].equals("true") || words[i].equals("false");
            types[i] = isTruth ? boolean.class : int.class;
            values[i] = isTruth ? (Object) Boolean.valueOf(words[i]) : (Object) number(words[i]);
        }
        return (Integer) FeedDesk.class.getMethod(name, types).invoke(desk, values);
    }

    private static Integer number(String word) {
        return word.equals("FeedDesk.NONE") ? Integer.valueOf(FeedDesk.NONE) : Integer.valueOf(word);
    }

    private static void findEachCall(String text) {
        for (Method method : FeedDesk.class.getDeclaredMethods()) {
            if (Modifier.isPublic(method.getModifiers())) {
                check.holds("the table has " + method.getName(), text.contains("\n| `" + method.getName() + "("));
            }
        }
    }
}
