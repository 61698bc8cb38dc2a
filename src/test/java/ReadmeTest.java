import java.io.IOException;
import java.lang.reflect.InvocationTargetException;
import java.lang.reflect.Method;
import java.nio.file.Files;
import java.nio.file.Path;
import java.nio.file.Paths;
import java.util.ArrayList;
import java.util.List;
import java.util.Set;
import java.util.TreeSet;
import java.util.regex.Matcher;
import java.util.regex.Pattern;

/** README.md, line by line: each call that it shows answers what it says, all calls on one object. */
public final class ReadmeTest {
    private static final Pattern MADE = Pattern.compile("HashgraphDesk desk = new HashgraphDesk\\(\\);");
    private static final Pattern CALL = Pattern.compile("desk\\.(\\w+)\\(([^()]*)\\);\\s*// (.*)");
    private static final Pattern SAID = Pattern.compile("(throws \\w+|true|false|-?\\d+)(: .*)?");
    private static final Pattern TEST_NAME = Pattern.compile("`(\\w+Test)`");

    private static final Check check = new Check();
    private static final Set<String> shown = new TreeSet<>();
    private static HashgraphDesk desk;
    private static int calls;

    public static void main(String[] args) throws IOException {
        List<String> lines = Files.readAllLines(Paths.get("README.md"));
        for (String line : javaLines(lines)) {
            run(line);
        }
        check.isTrue("no more calls than an object is used for, not " + calls, calls <= Desk.MOST_CALLS);
        Set<String> face = new TreeSet<>();
        for (Method method : HashgraphDesk.class.getMethods()) {
            if (method.getDeclaringClass() == HashgraphDesk.class) {
                face.add(method.getName());
            }
        }
        check.isTrue("all of the face is shown, not only " + shown, shown.equals(face));
        findTests(lines);
        check.finish();
    }

    private static List<String> javaLines(List<String> lines) {
        List<String> inside = new ArrayList<>();
        boolean isJava = false;
        for (String line : lines) {
            if (line.startsWith("```")) {
                isJava = line.equals("```java");
            } else if (isJava && !line.isEmpty()) {
                inside.add(line);
            }
        }
        return inside;
    }

    private static void run(String line) {
        if (MADE.matcher(line).matches()) {
            desk = new HashgraphDesk();
            calls = 0;
            return;
        }
        Matcher call = CALL.matcher(line);
        boolean isCall = call.matches();
        check.isTrue("README.md shows a call: " + line, isCall);
        if (isCall) {
            calls++;
            compare(line, answer(call.group(1), call.group(2)), call.group(3));
        }
    }

    private static void compare(String line, String got, String remark) {
        Matcher said = SAID.matcher(remark);
        // What has no answer, as begin, has any remark behind it.
        String due = said.matches() ? said.group(1) : "nothing";
        check.alike("README.md: " + line, got, due);
    }

    private static String answer(String name, String list) {
        String[] words = list.split(", ");
        for (Method method : HashgraphDesk.class.getMethods()) {
            if (method.getName().equals(name) && method.getParameterCount() == words.length) {
                return answer(method, words);
            }
        }
        return "no such call";
    }

    private static String answer(Method method, String[] words) {
        Class<?>[] types = method.getParameterTypes();
        Object[] values = new Object[words.length];
        for (int i = 0; i < words.length; i++) {
            values[i] = value(types[i], words[i]);
        }
        try {
            Object got = method.invoke(desk, values);
            shown.add(method.getName());
            return got == null ? "nothing" : got.toString();
        } catch (InvocationTargetException thrown) {
            return "throws " + thrown.getCause().getClass().getSimpleName();
        } catch (IllegalAccessException closed) {
            return "closed";
        }
    }

    private static Object value(Class<?> type, String word) {
        if (type == boolean.class) {
            check.isTrue("README.md: " + word + " is true or false", word.equals("true") || word.equals("false"));
            return word.equals("true");
        }
        if (type == long.class) {
            return Long.valueOf(word);
        }
        return Integer.valueOf(word);
    }

    private static void findTests(List<String> lines) {
        for (String line : lines) {
            Matcher name = TEST_NAME.matcher(line);
            while (name.find()) {
                Path file = Paths.get("src/test/java", name.group(1) + ".java");
                check.isTrue("README.md names " + file + ", which stands", Files.exists(file));
            }
        }
    }
}
