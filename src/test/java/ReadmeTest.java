import java.lang.reflect.Method;
import java.lang.reflect.Modifier;
import java.nio.file.Files;
import java.nio.file.Path;
import java.util.regex.Matcher;
import java.util.regex.Pattern;

/** The example in README.md answers as its comments say, and the table of calls has every call. */
public final class ReadmeTest {
    private static final Pattern TEXT = Pattern.compile("for \\(char letter : \"([^\"]+)\"");
    private static final Pattern CALL = Pattern.compile("(?m)^x\\.(\\w+)\\(([^)]*)\\);\\s+// (-?\\d+)\\b.*$");
    private static int wrong = 0;

    public static void main(String[] args) throws Exception {
        String readme = Files.readString(Path.of("README.md"));
        exampleAnswersAsItSays(readme);
        tableHasEveryCall(readme);
        System.exit(wrong == 0 ? 0 : 1);
    }

    private static void due(String what, Object got, Object want) {
        if (!got.equals(want)) {
            wrong++;
            System.out.println("README.md: " + what + " is " + got + ", due is " + want);
        }
    }

    private static void exampleAnswersAsItSays(String readme) throws Exception {
        int start = readme.indexOf("```java\n");
        int end = readme.indexOf("```\n", start + 3);
        due("there is an example", start >= 0 && end > start, true);
        String example = start >= 0 && end > start ? readme.substring(start, end) : "";
        HomeNeedles x = new HomeNeedles();
        Matcher text = TEXT.matcher(example);
        due("there is the text of a sea", text.find(), true);
        for (char letter : text.group(1).toCharArray()) {
            x.letter(letter);
        }
        long lines = example.lines().filter(line -> line.startsWith("x.")).count();
        long asked = 0;
        Matcher call = CALL.matcher(example);
        while (call.find()) {
            due(call.group(), answer(x, call.group(1), call.group(2)), Long.parseLong(call.group(3)));
            asked++;
        }
        due("lines of the example that tell an answer", asked, lines);
        due("the example asks", asked > 0, true);
    }

    private static long answer(HomeNeedles x, String name, String numbers) throws Exception {
        String[] parts = numbers.isEmpty() ? new String[0] : numbers.split(", ");
        Class<?>[] types = new Class<?>[parts.length];
        Object[] values = new Object[parts.length];
        for (int i = 0; i < parts.length; i++) {
            boolean isYesOrNo = parts[i].equals("true") || parts[i].equals("false");
            types[i] = isYesOrNo ? boolean.class : int.class;
            values[i] = isYesOrNo ? (Object) Boolean.valueOf(parts[i]) : (Object) Integer.valueOf(parts[i]);
        }
        return ((Number) HomeNeedles.class.getMethod(name, types).invoke(x, values)).longValue();
    }

    private static void tableHasEveryCall(String readme) {
        for (Method method : HomeNeedles.class.getDeclaredMethods()) {
            if (Modifier.isPublic(method.getModifiers())) {
                Matcher row = Pattern.compile("(?m)^\\| `" + method.getName() + "\\(([^)]*)\\)` \\|").matcher(readme);
                boolean found = row.find();
                due("the table has " + method.getName(), found, true);
                String names = found ? row.group(1) : "";
                due("parameters of " + method.getName(), names.isEmpty() ? 0 : names.split(", ").length,
                        method.getParameterCount());
            }
        }
    }
}
