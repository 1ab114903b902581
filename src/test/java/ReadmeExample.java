import java.lang.reflect.Method;
import java.nio.file.Files;
import java.nio.file.Path;
import java.util.ArrayList;
import java.util.List;
import java.util.regex.Matcher;
import java.util.regex.Pattern;

/** The example of README.md answers what it says, and no call is missing there (run in the project's root). */
public final class ReadmeExample {
    private static final Pattern CALL = Pattern.compile("monitor\\.(\\w+)\\(([-0-9, ]*)\\);\\s*// (-?\\d+): .*");

    private static List<String> exampleOf(List<String> readme) {
        int from = readme.indexOf("```java");
        Due.is("README.md has an example", from >= 0 ? 1 : 0, 1);
        List<String> lines = readme.subList(from + 1, readme.size());
        return new ArrayList<>(lines.subList(0, lines.indexOf("```")));
    }

    private static int answer(DockingMonitor monitor, String name, String arguments)
            throws ReflectiveOperationException {
        String[] texts = arguments.isEmpty() ? new String[0] : arguments.split(", ");
        Class<?>[] types = new Class<?>[texts.length];
        Object[] values = new Object[texts.length];
        for (int i = 0; i < texts.length; i++) {
            types[i] = int.class;
            values[i] = Integer.valueOf(texts[i]);
        }
        return (Integer) DockingMonitor.class.getMethod(name, types).invoke(monitor, values);
    }

    private static void follow(List<String> example) throws ReflectiveOperationException {
        Due.same("the first line", example.remove(0), "DockingMonitor monitor = new DockingMonitor();");
        DockingMonitor monitor = new DockingMonitor();
        for (String line : example) {
            Matcher call = CALL.matcher(line);
            Due.is("a call and its answer: " + line, call.matches() ? 1 : 0, 1);
            if (call.matches()) {
                Due.is(line, answer(monitor, call.group(1), call.group(2)), Integer.parseInt(call.group(3)));
            }
        }
    }

    public static void main(String[] args) throws Exception {
        List<String> readme = Files.readAllLines(Path.of("README.md"));
        follow(exampleOf(readme));
        String all = String.join("\n", readme);
        for (Method method : DockingMonitor.class.getMethods()) {
            if (method.getDeclaringClass() == DockingMonitor.class) {
                Due.is("README.md names " + method.getName(), all.contains("`" + method.getName() + "`") ? 1 : 0, 1);
            }
        }
        Due.end();
    }
}
