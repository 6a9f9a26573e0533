import java.lang.reflect.Method;
import java.nio.file.Files;
import java.nio.file.Path;
import java.util.List;
import java.util.regex.Matcher;
import java.util.regex.Pattern;

/** Makes the calls that README.md shows, one behind the other, and compares with the answers written there. */
public final class ReadmeTest {
    private static final Check CHECK = new Check("ReadmeTest");
    private static final Pattern NEW = Pattern.compile("Retouched x = new Retouched\\(\\);");
    private static final Pattern PUT = Pattern.compile("put\\(x, \"([^\"]*)\"\\);");
    private static final Pattern CALL = Pattern.compile("x\\.(\\w+)\\(([^)]*)\\); +// (-?\\d+|true|false)(:.*)?");

    public static void main(String[] args) throws Exception {
        List<String> lines = Files.readAllLines(Path.of("README.md"));
        runs(lines);
        names(String.join("\n", lines));
        CHECK.finish();
    }

    private static void runs(List<String> lines) throws Exception {
        Retouched x = new Retouched();
        int calls = 0;
        for (String line : lines) {
            Matcher put = PUT.matcher(line);
            Matcher call = CALL.matcher(line);
            if (NEW.matcher(line).matches()) {
                x = new Retouched();
            } else if (put.matches()) {
                Check.text(x, put.group(1));
            } else if (call.matches()) {
                calls++;
                CHECK.due(line, answer(x, call.group(1), call.group(2)).equals(call.group(3)), true);
            } else {
                CHECK.due("a call that is not read: " + line, line.startsWith("x.") || line.startsWith("put("), false);
            }
        }
        CHECK.due("there are calls", calls > 10, true);
    }

    private static String answer(Retouched x, String name, String list) throws Exception {
        String[] parts = list.isEmpty() ? new String[0] : list.split(", *");
        Object[] numbers = new Object[parts.length];
        Class<?>[] types = new Class<?>[parts.length];
        for (int i = 0; i < parts.length; i++) {
            numbers[i] = Integer.valueOf(parts[i]);
            types[i] = int.class;
        }
        return String.valueOf(Retouched.class.getMethod(name, types).invoke(x, numbers));
    }

    /** Every public call is told of. */
    private static void names(String readme) {
        for (Method method : Retouched.class.getDeclaredMethods()) {
            if (java.lang.reflect.Modifier.isPublic(method.getModifiers())) {
                CHECK.due("README.md has `" + method.getName() + "`", readme.contains("`" + method.getName() + "`"), true);
            }
        }
    }
}
