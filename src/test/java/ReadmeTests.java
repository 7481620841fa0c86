import java.lang.reflect.Method;
import java.nio.file.Files;
import java.nio.file.Path;
import java.util.regex.Matcher;
import java.util.regex.Pattern;

/** What README.md tells holds: each answer of its example, and that it names each call and each test. */
public final class ReadmeTests {
    /** A line of the example: x.name(numbers);  // answer, and words if there are any. */
    private static final Pattern CALL = Pattern.compile("x\\.(\\w+)\\(([^)]*)\\);\\s*// (-?\\d+)\\b.*");
    private static final Pattern COUNTY = Pattern.compile("\"(L\\w*)\"");
    private static final int FEWEST_ANSWERS = 20;

    private static final Check CHECK = new Check();

    public static void main(String[] args) throws Exception {
        String readme = Files.readString(Path.of("README.md"));
        example(readme);
        for (Method method : ClapOaths.class.getDeclaredMethods()) {
            if (java.lang.reflect.Modifier.isPublic(method.getModifiers())) {
                boolean named = Pattern.compile("\\b" + method.getName() + "\\(").matcher(readme).find();
                CHECK.due("README.md names the call " + method.getName(), named ? 1 : 0, 1);
            }
        }
        try (var files = Files.list(Path.of("src/test/java"))) {
            for (Path file : files.toList()) {
                String name = file.getFileName().toString().replace(".java", "");
                if (name.endsWith("Tests")) {
                    CHECK.due("README.md names " + name, readme.contains("`" + name + "`") ? 1 : 0, 1);
                }
            }
        }
        CHECK.end("ReadmeTests");
    }

    private static void example(String readme) throws Exception {
        Matcher county = COUNTY.matcher(readme);
        CHECK.due("README.md tells a county", county.find() ? 1 : 0, 1);
        ClapOaths x = new ClapOaths();
        Check.tell(x, county.group(1));
        int answers = 0;
        for (String line : readme.split("\n")) {
            Matcher call = CALL.matcher(line);
            if (call.matches()) {
                CHECK.due("README.md: " + line, answer(x, call.group(1), call.group(2)), Long.parseLong(call.group(3)));
                answers++;
            }
        }
        CHECK.due("README.md tells answers", answers >= FEWEST_ANSWERS ? 1 : 0, 1);
    }

    private static long answer(ClapOaths x, String name, String told) throws Exception {
        String[] numbers = told.isEmpty() ? new String[0] : told.split(", ");
        for (Method method : ClapOaths.class.getMethods()) {
            if (method.getName().equals(name)) {
                Object[] arguments = new Object[numbers.length];
                for (int i = 0; i < numbers.length; i++) {
                    arguments[i] = valueOf(numbers[i], method.getParameterTypes()[i]);
                }
                return ((Number) method.invoke(x, arguments)).longValue();
            }
        }
        throw new IllegalStateException("no call " + name);
    }

    private static Object valueOf(String told, Class<?> type) {
        if (type == boolean.class) {
            return Boolean.valueOf(told);
        }
        long number = Long.parseLong(told.replaceAll("[L_]", ""));
        return type == long.class ? (Object) number : (Object) (int) number;
    }
}
