import java.io.File;
import java.lang.reflect.Method;
import java.lang.reflect.Modifier;
import java.nio.file.Files;
import java.nio.file.Path;
import java.util.regex.Matcher;
import java.util.regex.Pattern;

/** README.md: its calls are done and answer what it says; it names every call of the face and every test. */
public final class ReadmeTest {
    private static final Check CHECK = new Check("ReadmeTest");
    private static final Pattern MADE = Pattern.compile("ShareEight x = new ShareEight\\(([^)]*)\\);.*");
    private static final Pattern CALL = Pattern.compile("x\\.(\\w+)\\(([^)]*)\\);\\s*// (-?\\w+).*");

    public static void main(String[] args) throws Exception {
        String readme = Files.readString(Path.of("README.md"));
        example(readme);
        callsNamed(readme);
        testsNamed(readme);
        CHECK.finish();
    }

    private static void example(String readme) throws Exception {
        int from = readme.indexOf("```java\n") + "```java\n".length();
        String code = readme.substring(from, readme.indexOf("```", from));
        ShareEight x = null;
        for (String line : code.split("\n")) {
            Matcher made = MADE.matcher(line);
            Matcher call = CALL.matcher(line);
            if (made.matches()) {
                int[] n = numbers(made.group(1));
                x = new ShareEight(n[0], n[1], n[2], n[3]);
            } else if (call.matches()) {
                CHECK.due(line, answer(x, call.group(1), numbers(call.group(2))), call.group(3));
            } else {
                CHECK.due("a call or a remark: " + line, line.isEmpty() || line.startsWith("//"), true);
            }
        }
        CHECK.due("README.md makes an object", x != null, true);
    }

    private static int[] numbers(String text) {
        String[] parts = text.isEmpty() ? new String[0] : text.split(", ");
        int[] numbers = new int[parts.length];
        for (int i = 0; i < parts.length; i++) {
            numbers[i] = Long.decode(parts[i]).intValue();
        }
        return numbers;
    }

    private static String answer(ShareEight x, String name, int[] numbers) throws Exception {
        Class<?>[] types = new Class<?>[numbers.length];
        Object[] values = new Object[numbers.length];
        for (int i = 0; i < numbers.length; i++) {
            types[i] = int.class;
            values[i] = numbers[i];
        }
        String answer = ShareEight.class.getMethod(name, types).invoke(x, values).toString();
        return answer.equals("-1") ? "NONE" : answer;
    }

    private static void callsNamed(String readme) {
        for (Method method : ShareEight.class.getDeclaredMethods()) {
            if (Modifier.isPublic(method.getModifiers())) {
                String name = "`" + method.getName() + "`";
                CHECK.due("README.md names " + name, readme.contains(name), true);
            }
        }
    }

    private static void testsNamed(String readme) {
        String[] files = new File("src/test/java").list();
        CHECK.due("tests", files != null && files.length > 0, true);
        for (String file : files == null ? new String[0] : files) {
            if (file.endsWith("Test.java")) {
                String name = "`" + file.substring(0, file.length() - ".java".length()) + "`";
                CHECK.due("README.md names " + name, readme.contains(name), true);
            }
        }
    }
}
