import java.lang.reflect.Method;
import java.lang.reflect.Modifier;
import java.nio.file.Files;
import java.nio.file.Path;
import java.util.regex.Matcher;
import java.util.regex.Pattern;

/** README.md's example answers what it says behind each call, and the page names every call. */
public final class ReadmeExample {
    private static final Pattern CALL =
        Pattern.compile("bench\\.(\\w+)\\(([^)]*)\\);\\s*// (-?\\d+|true|false)\\b.*");

    private static int calls = 0;
    private static int wrong = 0;

    private static void expect(boolean holds, String what) {
        if (!holds) {
            wrong++;
            System.out.println(what);
        }
    }

    private static String between(String text, String start, String end) {
        int from = text.indexOf(start);
        int to = from < 0 ? -1 : text.indexOf(end, from + start.length());
        expect(to >= 0, "README.md has no " + start.trim() + " block");
        return to < 0 ? "" : text.substring(from + start.length(), to);
    }

    private static Method named(String name) {
        for (Method method : NetBorders.class.getDeclaredMethods()) {
            if (method.getName().equals(name) && Modifier.isPublic(method.getModifiers())) {
                return method;
            }
        }
        return null;
    }

    private static Object[] parsed(String list, Method method) {
        String[] words = list.isEmpty() ? new String[0] : list.split(", ");
        Object[] values = new Object[words.length];
        for (int i = 0; i < words.length; i++) {
            boolean flag = method.getParameterTypes()[i] == boolean.class;
            values[i] = flag ? (Object) Boolean.valueOf(words[i]) : (Object) Integer.valueOf(words[i]);
        }
        return values;
    }

    private static void runExample(String example) throws Exception {
        String[] lines = example.split("\n");
        expect(lines[0].equals("NetBorders bench = new NetBorders();"), "first line: " + lines[0]);
        NetBorders bench = new NetBorders();
        for (int i = 1; i < lines.length; i++) {
            Matcher parts = CALL.matcher(lines[i]);
            Method method = parts.matches() ? named(parts.group(1)) : null;
            expect(method != null, "not a call with its answer: " + lines[i]);
            if (method != null) {
                calls++;
                String got = String.valueOf(method.invoke(bench, parsed(parts.group(2), method)));
                expect(got.equals(parts.group(3)), lines[i] + ": answered " + got);
            }
        }
    }

    private static void namesEveryCall(String page) {
        for (Method method : NetBorders.class.getDeclaredMethods()) {
            if (Modifier.isPublic(method.getModifiers())) {
                boolean named = page.contains("\n| `" + method.getName() + "(");
                expect(named, "README.md does not tell of " + method.getName());
            }
        }
        expect(page.contains(".ci/run"), "README.md does not say how to run the tests");
    }

    public static void main(String[] args) throws Exception {
        String page = Files.readString(Path.of(args.length > 0 ? args[0] : "README.md"));
        runExample(between(page, "```java\n", "```"));
        namesEveryCall(page);
        expect(calls > 20, "the example has " + calls + " calls");
        System.out.println("ReadmeExample: " + calls + " calls, " + wrong + " wrong");
        if (wrong != 0) {
            System.exit(1);
        }
    }
}
