import java.io.IOException;
import java.lang.reflect.InvocationTargetException;
import java.lang.reflect.Method;
import java.nio.file.Files;
import java.nio.file.Path;
import java.util.ArrayList;
import java.util.List;
import java.util.regex.Matcher;
import java.util.regex.Pattern;

/** Holds README.md to the class: its example is made call by call, and its list of calls is the face. */
public final class ReadmeTest {
    private static final Pattern CALL = Pattern.compile("lab\\.(\\w+)\\((.*)\\); +// ([^:,]+)[:,].*");
    private static final Pattern ROW = Pattern.compile("\\| `(\\w+\\(.*\\))` \\| .+ \\|");
    private static final Pattern PUBLIC = Pattern.compile("    public \\w+ (\\w+)\\((.*?)\\).*");

    private ReadmeTest() {
    }

    public static void main(String[] args) throws IOException, IllegalAccessException {
        List<String> page = Files.readAllLines(Path.of("README.md"));
        example(page);
        calls(page);
        Due.end();
    }

    private static void example(List<String> page) throws IllegalAccessException {
        int line = page.indexOf("Grainclock lab = new Grainclock();");
        Due.same("the example begins with a new object", line > 0 && page.get(line - 1).equals("```java"), true);
        Grainclock lab = new Grainclock();
        int calls = 0;
        for (line++; line < page.size() && !page.get(line).equals("```"); line++) {
            Matcher call = CALL.matcher(page.get(line));
            boolean isCall = call.matches();
            Due.same("a call with its answer: " + page.get(line), isCall, true);
            if (isCall) {
                Due.same(page.get(line), answer(lab, call.group(1), call.group(2)), call.group(3));
                calls++;
            }
        }
        Due.same("the example shows some calls", calls > 10, true);
    }

    private static String answer(Grainclock lab, String name, String arguments) throws IllegalAccessException {
        String[] parts = arguments.isEmpty() ? new String[0] : arguments.split(", ");
        Object[] values = new Object[parts.length];
        for (int k = 0; k < parts.length; k++) {
            boolean isTold = parts[k].equals("true") || parts[k].equals("false");
            values[k] = isTold ? (Object) Boolean.valueOf(parts[k]) : (Object) Integer.valueOf(parts[k]);
        }
        for (Method method : Grainclock.class.getMethods()) {
            if (method.getName().equals(name) && method.getParameterCount() == values.length) {
                return answer(lab, method, values);
            }
        }
        return "no such call";
    }

    private static String answer(Grainclock lab, Method method, Object[] values) throws IllegalAccessException {
        try {
            return String.valueOf(method.invoke(lab, values));
        } catch (InvocationTargetException e) {
            return "throws " + e.getCause().getClass().getSimpleName();
        }
    }

    private static void calls(List<String> page) throws IOException {
        List<String> told = new ArrayList<>();
        for (String line : page) {
            Matcher row = ROW.matcher(line);
            if (row.matches()) {
                told.add(row.group(1));
            }
        }
        List<String> due = new ArrayList<>();
        for (String line : Files.readAllLines(Path.of("src/main/java/Grainclock.java"))) {
            Matcher face = PUBLIC.matcher(line);
            if (face.matches()) {
                due.add(face.group(1) + "(" + face.group(2).replaceAll("\\w+ (\\w+)", "$1") + ")");
            }
        }
        Due.same("25 calls", due.size(), 25);
        Due.same("the list of calls", told.toString(), due.toString());
    }
}
