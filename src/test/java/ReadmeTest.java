import java.lang.reflect.Method;
import java.lang.reflect.Modifier;
import java.nio.file.DirectoryStream;
import java.nio.file.Files;
import java.nio.file.Path;
import java.util.regex.Matcher;
import java.util.regex.Pattern;

/** README.md: its example answers as it says, and it names every call, class and test. */
public final class ReadmeTest {
    private static final Pattern TELL = Pattern.compile("tell\\(x, \"([^\"]*)\"\\);");
    private static final Pattern CALL = Pattern.compile("x\\.(\\w+)\\(([^)]*)\\);\\s*// (-?\\d+|true|false).*");

    /** The block of code that makes an object. */
    private static String example(String readme) {
        Matcher m = Pattern.compile("```java\n(LastSeat x = .*?)```", Pattern.DOTALL).matcher(readme);
        return m.find() ? m.group(1) : "";
    }

    private static long call(LastSeat x, String name, String told) throws Exception {
        String[] parts = told.isBlank() ? new String[0] : told.split(", ");
        for (Method m : LastSeat.class.getMethods()) {
            if (m.getName().equals(name) && m.getParameterCount() == parts.length) {
                Object[] args = new Object[parts.length];
                for (int i = 0; i < parts.length; i++) args[i] = Integer.valueOf(parts[i]);
                Object answer = m.invoke(x, args);
                return answer instanceof Boolean b ? b ? 1 : 0 : (Integer) answer;
            }
        }
        throw new IllegalArgumentException(name + " is no call");
    }

    private static long valueOf(String told) {
        return told.equals("true") ? 1 : told.equals("false") ? 0 : Long.parseLong(told);
    }

    private static void theExample(String code) throws Exception {
        LastSeat x = new LastSeat();
        int calls = 0;
        for (String line : code.split("\n")) {
            Matcher tell = TELL.matcher(line);
            Matcher call = CALL.matcher(line);
            if (tell.matches()) {
                Check.tape(x, tell.group(1));
            } else if (call.matches()) {
                Check.due(line, valueOf(call.group(3)), call(x, call.group(1), call.group(2)));
                calls++;
            } else {
                Check.due("understood: " + line, true, line.isBlank() || line.equals("LastSeat x = new LastSeat();"));
            }
        }
        Check.due("the example has calls", true, calls > 20);
    }

    private static void theNames(String readme) throws Exception {
        for (Method m : LastSeat.class.getDeclaredMethods()) {
            if (Modifier.isPublic(m.getModifiers())) names(readme, m.getName());
        }
        for (Class<?> c : LastSeat.class.getDeclaredClasses()) names(readme, c.getSimpleName());
        try (DirectoryStream<Path> tests = Files.newDirectoryStream(Path.of("src/test"), "*")) {
            for (Path dir : tests) {
                try (DirectoryStream<Path> files = Files.newDirectoryStream(dir, "*.java")) {
                    for (Path f : files) names(readme, f.getFileName().toString().replace(".java", ""));
                }
            }
        }
    }

    private static void names(String readme, String name) {
        Check.due("README.md names " + name, true, Pattern.compile("[`/]" + name + "\\b").matcher(readme).find());
    }

    public static void main(String[] args) throws Exception {
        String readme = Files.readString(Path.of("README.md"));
        theExample(example(readme));
        theNames(readme);
        Check.finish();
    }
}
