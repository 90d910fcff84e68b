import java.io.File;
import java.io.IOException;
import java.lang.reflect.Field;
import java.lang.reflect.Method;
import java.lang.reflect.Modifier;
import java.nio.file.Files;
import java.nio.file.Path;
import java.util.regex.Matcher;
import java.util.regex.Pattern;

/** README.md: its example answers what it says there, and it names each call, constant and test. */
public final class ReadmeTest {
    private static final Pattern CALL = Pattern.compile("queue\\.(\\w+)\\((.*?)\\);\\s+// (-?\\d+)(\\s.*)?");
    private static final Pattern TEXT = Pattern.compile("for \\(char sign : \"(.*)\"\\.toCharArray\\(\\)\\) \\{");

    public static void main(String[] args) throws IOException, ReflectiveOperationException {
        String page = Files.readString(Path.of("README.md"));
        example(page);
        callsAreNamed(page);
        constantsAreNamed(page);
        testsAreNamed(page);
        Check.end();
    }

    private static void example(String page) throws ReflectiveOperationException {
        String code = between(page, "```java\n", "```");
        UmbrellaQueue queue = new UmbrellaQueue();
        for (String line : code.split("\n")) {
            Matcher call = CALL.matcher(line);
            Matcher text = TEXT.matcher(line);
            if (call.matches()) {
                Check.due("README: " + line, answer(queue, call.group(1), call.group(2)), Long.parseLong(call.group(3)));
            } else if (text.matches()) {
                Check.type(queue, text.group(1));
            } else {
                Check.holds("README: a line that is no call: " + line, isOther(line));
            }
        }
    }

    private static boolean isOther(String line) {
        return line.isEmpty() || line.startsWith("//") || line.equals("}") || line.equals("    queue.type(sign);")
            || line.equals("UmbrellaQueue queue = new UmbrellaQueue();");
    }

    private static int answer(UmbrellaQueue queue, String name, String list) throws ReflectiveOperationException {
        String[] words = list.isEmpty() ? new String[0] : list.split(", ");
        for (Method method : UmbrellaQueue.class.getMethods()) {
            if (method.getName().equals(name) && method.getParameterCount() == words.length) {
                Object[] values = new Object[words.length];
                for (int i = 0; i < words.length; i++) {
                    if (words[i].startsWith("'")) {
                        values[i] = words[i].charAt(1);
                    } else {
                        values[i] = Integer.valueOf(words[i]);
                    }
                }
                return (int) method.invoke(queue, values);
            }
        }
        Check.holds("README: there is a call " + name + "(" + list + ")", false);
        return 0;
    }

    private static void callsAreNamed(String page) {
        String table = between(page, "### The calls", "###");
        for (Method method : UmbrellaQueue.class.getDeclaredMethods()) {
            if (Modifier.isPublic(method.getModifiers())) {
                Check.holds("README names the call " + method.getName(), table.contains("`" + method.getName() + "("));
            }
        }
    }

    private static void constantsAreNamed(String page) throws IllegalAccessException {
        String table = between(page, "### Answers below 0", "## ");
        for (Field field : UmbrellaQueue.class.getDeclaredFields()) {
            if (Modifier.isPublic(field.getModifiers())) {
                String row = "| `" + field.getName() + "` | " + field.getInt(null) + " |";
                Check.holds("README has the row " + row, table.contains(row));
            }
        }
    }

    private static void testsAreNamed(String page) {
        String list = between(page, "## How to run the tests", "NOTES.md");
        String[] files = new File("src/test/java").list();
        Check.holds("there are tests", files != null);
        for (String file : files == null ? new String[0] : files) {
            if (file.endsWith("Test.java")) {
                String name = file.substring(0, file.length() - ".java".length());
                Check.holds("README names the test " + name, list.contains("`" + name + "`"));
            }
        }
        Matcher named = Pattern.compile("`(\\w+Test)`").matcher(list);
        while (named.find()) {
            Check.holds(named.group(1) + " is there", new File("src/test/java/" + named.group(1) + ".java").exists());
        }
    }

    private static String between(String page, String start, String end) {
        int from = page.indexOf(start);
        int to = from < 0 ? -1 : page.indexOf(end, from + start.length());
        Check.holds("README has a part from " + start.trim() + " to " + end.trim(), to > 0);
        return to > 0 ? page.substring(from + start.length(), to) : "";
    }
}
