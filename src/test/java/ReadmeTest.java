import java.io.IOException;
import java.lang.reflect.Method;
import java.lang.reflect.Modifier;
import java.nio.file.Files;
import java.nio.file.Path;
import java.util.regex.Matcher;
import java.util.regex.Pattern;

/** The rows of README.md that show a call and its answer are as the class answers; each call is named there. */
public final class ReadmeTest {
    private static final Pattern CALL = Pattern.compile("x\\.(\\w+)\\(([^)]*)\\);\\s*// (-?\\d+): .*");
    private static final Pattern TEXT =
            Pattern.compile("Texts\\.(realm|rule)\\(x, \"([^\"]*)\"\\);\\s*// (-?\\d+): .*");
    private static final String NEW = "OneDecision x = new OneDecision();";

    private final Check check = new Check();
    private OneDecision x;

    private ReadmeTest() {
    }

    public static void main(String[] args) throws IOException, ReflectiveOperationException {
        String readme = Files.readString(Path.of(args.length > 0 ? args[0] : ".", "README.md"));
        ReadmeTest test = new ReadmeTest();
        boolean shown = false;
        for (String row : readme.split("\n")) {
            if (row.startsWith("```")) {
                shown = row.equals("```java");
            } else if (shown) {
                test.follow(row);
            }
        }
        for (Method method : OneDecision.class.getDeclaredMethods()) {
            if (Modifier.isPublic(method.getModifiers())) {
                test.check.due(method.getName() + " is named", readme.contains("`" + method.getName() + "`") ? 1 : 0, 1);
            }
        }
        test.check.close();
    }

    private void follow(String row) throws ReflectiveOperationException {
        Matcher call = CALL.matcher(row);
        Matcher text = TEXT.matcher(row);
        if (row.equals(NEW)) {
            x = new OneDecision();
        } else if (text.matches()) {
            int got = text.group(1).equals("realm") ? Texts.realm(x, text.group(2)) : Texts.rule(x, text.group(2));
            check.due(row, got, Integer.parseInt(text.group(3)));
        } else if (call.matches()) {
            check.due(row, answer(call.group(1), call.group(2)), Integer.parseInt(call.group(3)));
        } else {
            check.due("a row that shows no answer: " + row, 0, 1);
        }
    }

    private int answer(String name, String numbers) throws ReflectiveOperationException {
        String[] each = numbers.isEmpty() ? new String[0] : numbers.split(", ");
        Class<?>[] kinds = new Class<?>[each.length];
        Object[] values = new Object[each.length];
        for (int i = 0; i < each.length; i++) {
            kinds[i] = int.class;
            values[i] = Integer.decode(each[i]);
        }
        return (Integer) OneDecision.class.getMethod(name, kinds).invoke(x, values);
    }
}
