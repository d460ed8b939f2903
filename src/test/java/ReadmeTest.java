import java.io.IOException;
import java.lang.reflect.Method;
import java.lang.reflect.Modifier;
import java.nio.file.Files;
import java.nio.file.Path;
import java.util.Arrays;
import java.util.regex.Matcher;
import java.util.regex.Pattern;
import java.util.stream.Collectors;

/** What README.md says of the calls: its example answers so, and each call of the face has a row. */
public final class ReadmeTest {
    // A call of the example, and the answer with which its comment begins, if it tells one.
    private static final Pattern CALL =
        Pattern.compile("^desk\\.(\\w+)\\((.*?)\\);(?:\\s*// (true|false|-?\\d+)\\b)?", Pattern.MULTILINE);

    public static void main(String[] args) throws IOException, ReflectiveOperationException {
        Check check = new Check();
        String readme = Files.readString(Path.of("README.md"));
        example(check, readme);
        everyCallHasARow(check, readme);
        check.finish();
    }

    private static void example(Check check, String readme) throws ReflectiveOperationException {
        ReplayDesk desk = new ReplayDesk();
        Matcher call = CALL.matcher(readme);
        int told = 0;
        while (call.find()) {
            Object answer = answerOf(desk, call.group(1), call.group(2));
            if (call.group(3) != null) {
                told++;
                check.due(call.group() + " " + answer, answer.toString().equals(call.group(3)), true);
            }
        }
        check.due("answers that the example tells", told > 0, true);
        check.due("last() behind the example", desk.last(), 0);
        check.due("register(1) behind the example", desk.register(1), 7);
    }

    private static Object answerOf(ReplayDesk desk, String name, String text) throws ReflectiveOperationException {
        String[] words = text.isEmpty() ? new String[0] : text.split(", ");
        Object[] values = new Object[words.length];
        Class<?>[] types = new Class<?>[words.length];
        for (int k = 0; k < words.length; k++) {
            boolean truth = words[k].equals("true") || words[k].equals("false");
            values[k] = truth ? Boolean.valueOf(words[k]) : Integer.valueOf(words[k]);
            types[k] = truth ? boolean.class : int.class;
        }
        return ReplayDesk.class.getMethod(name, types).invoke(desk, values);
    }

    private static void everyCallHasARow(Check check, String readme) {
        check.due("a row for new ReplayDesk()", readme.contains("\n| `new ReplayDesk()` |"), true);
        for (Method method : ReplayDesk.class.getDeclaredMethods()) {
            if (Modifier.isPublic(method.getModifiers())) {
                String types = Arrays.stream(method.getParameterTypes())
                    .map(type -> type + " \\w+")
                    .collect(Collectors.joining(", "));
                String row = "\n\\| `" + method.getReturnType() + " " + method.getName() + "\\(" + types + "\\)` \\|";
                check.due("a row for " + method, Pattern.compile(row).matcher(readme).find(), true);
            }
        }
    }
}
