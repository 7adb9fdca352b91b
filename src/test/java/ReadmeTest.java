import java.io.IOException;
import java.lang.reflect.Method;
import java.lang.reflect.Modifier;
import java.lang.reflect.Parameter;
import java.nio.file.Files;
import java.nio.file.Path;
import java.util.ArrayList;
import java.util.List;

/** README.md has a section for each method of the public face, with its exceptions and an example. */
public final class ReadmeTest {
    private static final String[] EXCEPTIONS = {
        "IllegalArgumentException", "IllegalStateException", "ArithmeticException"
    };
    private static final Checks CHECKS = new Checks();

    public static void main(String[] args) throws IOException {
        List<String> page = Files.readAllLines(Path.of("README.md"));
        List<String> made = section(page, "BalanceRoom()");
        CHECKS.dueTrue("an example of the constructor", joined(made).contains("new BalanceRoom()"));
        int methods = 0;
        for (Method method : BalanceRoom.class.getDeclaredMethods()) {
            if (Modifier.isPublic(method.getModifiers())) {
                methods++;
                described(page, method);
            }
        }
        CHECKS.due("sections of methods", methods, () -> page.stream().filter(ReadmeTest::isOfMethod).count() - 1);
        CHECKS.dueTrue("NONE is told", joined(page).contains("`BalanceRoom.NONE` is " + BalanceRoom.NONE + "."));
        CHECKS.end();
    }

    private static void described(List<String> page, Method method) {
        String start = method.getReturnType() + " " + method.getName() + "(";
        List<String> section = section(page, start);
        CHECKS.dueTrue(start + " has a section", !section.isEmpty());
        CHECKS.dueTrue(start + " has as many parameters there", !section.isEmpty()
                && section.get(0).startsWith("### `" + start + parameterTypes(method, section.get(0))));
        CHECKS.dueTrue(start + " is called in an example", joined(section).contains("room." + method.getName() + "("));
        List<String> told = new ArrayList<>();
        for (String line : section) {
            for (String exception : EXCEPTIONS) {
                if (line.startsWith("- `" + exception + "`:")) {
                    told.add(exception);
                }
            }
        }
        List<String> due = new ArrayList<>();
        for (Class<?> exception : method.getExceptionTypes()) {
            due.add(exception.getSimpleName());
        }
        CHECKS.dueTrue(start + " throws there " + told + ", due are " + due, told.equals(due));
        for (String exception : due) {
            String call = "room." + method.getName() + "(";
            CHECKS.dueTrue(start + " has an example that throws " + exception, section.stream().anyMatch(
                    line -> line.startsWith(call) && line.endsWith("// throws " + exception)));
        }
    }

    /** The parameters as the heading has them, but with the types that they really have. */
    private static String parameterTypes(Method method, String heading) {
        String[] told = heading.substring(heading.indexOf('(') + 1, heading.indexOf(')')).split(", ");
        Parameter[] parameters = method.getParameters();
        StringBuilder text = new StringBuilder();
        for (int i = 0; i < parameters.length; i++) {
            String name = i < told.length ? told[i].substring(told[i].indexOf(' ') + 1) : "?";
            text.append(i == 0 ? "" : ", ").append(parameters[i].getType()).append(" ").append(name);
        }
        return text.append(")`").toString();
    }

    private static boolean isOfMethod(String line) {
        return line.startsWith("### `");
    }

    /** The lines from the heading that starts so to the next heading. */
    private static List<String> section(List<String> page, String start) {
        List<String> lines = new ArrayList<>();
        boolean inside = false;
        for (String line : page) {
            if (line.startsWith("## ") || line.startsWith("### ")) {
                inside = line.startsWith("### `" + start);
            }
            if (inside) {
                lines.add(line);
            }
        }
        return lines;
    }

    private static String joined(List<String> lines) {
        return String.join("\n", lines);
    }
}
