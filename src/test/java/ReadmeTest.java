import java.lang.reflect.Method;
import java.nio.charset.StandardCharsets;
import java.nio.file.Files;
import java.nio.file.Path;
import java.nio.file.Paths;
import java.util.regex.Matcher;
import java.util.regex.Pattern;

/** The text of README.md is read, and each call that stands there with an answer is made. */
public final class ReadmeTest extends Trial {
    private static final Pattern TEXT = Pattern.compile("(?s)```text\n(.*?)```");
    private static final Pattern CALL = Pattern.compile("(?m)^house\\.(\\w+)\\(([^)]*)\\); *// (-?\\d+):");

    public static void main(String[] args) throws Exception {
        Path root = args.length > 0 ? Paths.get(args[0]).resolve("../../../..") : Paths.get(".");
        String page = new String(Files.readAllBytes(root.resolve("README.md").normalize()), StandardCharsets.UTF_8);
        begin("README.md");
        Matcher text = TEXT.matcher(page);
        due("it has a text", text.find() ? 1 : 0, 1);
        CutStones house = told(text.group(1));
        Matcher call = CALL.matcher(page);
        int made = 0;
        while (call.find()) {
            int want = Integer.parseInt(call.group(3));
            due(call.group(1) + "(" + call.group(2) + ")", answer(house, call.group(1), call.group(2)), want);
            made++;
        }
        due("it has calls", made > 0 ? 1 : 0, 1);
        end(made + " calls answer as README.md says");
    }

    private static int answer(CutStones house, String name, String told) throws Exception {
        String[] parts = told.isEmpty() ? new String[0] : told.split(", *");
        for (Method method : CutStones.class.getMethods()) {
            if (method.getName().equals(name) && method.getParameterCount() == parts.length) {
                Object[] values = new Object[parts.length];
                for (int i = 0; i < parts.length; i++) {
                    boolean truth = method.getParameterTypes()[i] == boolean.class;
                    values[i] = truth ? (Object) Boolean.valueOf(parts[i]) : (Object) Integer.valueOf(parts[i]);
                }
                return (Integer) method.invoke(house, values);
            }
        }
        throw new IllegalStateException("no such call: " + name);
    }
}
