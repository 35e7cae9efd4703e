import java.io.IOException;
import java.lang.reflect.Method;
import java.lang.reflect.Modifier;
import java.nio.file.Files;
import java.nio.file.Path;
import java.util.regex.Matcher;
import java.util.regex.Pattern;

/** The examples of README.md answer what stands behind them, and its table has every call; run in its directory. */
public final class ReadmeTest {
    private static final Pattern EXAMPLE = Pattern.compile("```java\n(.*?)```", Pattern.DOTALL);
    private static final Pattern CALL =
            Pattern.compile("shelf\\.(\\w+)\\(([-0-9, ]*)\\); +// (true|false|-?[0-9]+)(:.*)?");
    private static final String NEW_OBJECT = "RedoShelf shelf = new RedoShelf();";

    private final Check check = new Check("ReadmeTest");

    public static void main(String[] args) throws IOException, ReflectiveOperationException {
        String text = Files.readString(Path.of("README.md"));
        ReadmeTest test = new ReadmeTest();
        test.dueExamples(text);
        test.dueTable(text);
        test.check.end();
    }

    private void dueExamples(String text) throws ReflectiveOperationException {
        int examples = 0;
        Matcher example = EXAMPLE.matcher(text);
        while (example.find()) {
            dueExample(example.group(1));
            examples++;
        }
        check.due("has examples", examples > 0, true);
    }

    private void dueExample(String lines) throws ReflectiveOperationException {
        RedoShelf shelf = null;
        for (String line : lines.split("\n")) {
            if (line.equals(NEW_OBJECT)) {
                shelf = new RedoShelf();
                continue;
            }
            Matcher call = CALL.matcher(line);
            boolean isCall = shelf != null && call.matches();
            check.due("'" + line + "' is a call with its answer", isCall, true);
            if (isCall) {
                String got = String.valueOf(answer(shelf, call.group(1), call.group(2)));
                check.due("'" + line + "' is right, got " + got, got.equals(call.group(3)), true);
            }
        }
    }

    private static Object answer(RedoShelf shelf, String name, String list) throws ReflectiveOperationException {
        String[] texts = list.isEmpty() ? new String[0] : list.split(", ");
        Class<?>[] types = new Class<?>[texts.length];
        Object[] arguments = new Object[texts.length];
        for (int i = 0; i < texts.length; i++) {
            types[i] = int.class;
            arguments[i] = Integer.valueOf(texts[i]);
        }
        return RedoShelf.class.getMethod(name, types).invoke(shelf, arguments);
    }

    private void dueTable(String text) {
        for (Method method : RedoShelf.class.getDeclaredMethods()) {
            if (Modifier.isPublic(method.getModifiers())) {
                Pattern row = Pattern.compile("\n\\| `" + method.getName() + "\\(([a-z, ]*)\\)` \\|");
                Matcher found = row.matcher(text);
                boolean named = found.find();
                check.due("names " + method.getName(), named, true);
                if (named) {
                    String list = found.group(1);
                    int count = list.isEmpty() ? 0 : list.split(", ").length;
                    check.due("arguments of " + method.getName(), count, method.getParameterCount());
                }
            }
        }
    }
}
