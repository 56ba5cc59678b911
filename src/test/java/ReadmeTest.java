import java.io.IOException;
import java.lang.reflect.Field;
import java.lang.reflect.Method;
import java.lang.reflect.Modifier;
import java.nio.file.Files;
import java.nio.file.Path;
import java.util.HashMap;
import java.util.Map;
import java.util.regex.Matcher;
import java.util.regex.Pattern;

/** README.md: its examples answer what it says, and it names every method and constant. */
public final class ReadmeTest {
    private static final Pattern EXAMPLE = Pattern.compile("```java\n(.*?)```", Pattern.DOTALL);
    private static final String BEGIN = "CubicForms x = new CubicForms();";
    private static final Pattern CALL = Pattern.compile("(?:(int|long) (\\w+) = )?x\\.(\\w+)\\((.*)\\); +// (-?\\d+)(?:: .*)?");

    public static void main(String[] args) throws IOException {
        Check.under("README.md");
        String page = Files.readString(Path.of("README.md"));
        Matcher example = EXAMPLE.matcher(page);
        int examples = 0;
        while (example.find()) {
            examples++;
            play(example.group(1).split("\n"));
        }
        Check.same("the number of examples", examples, 2);
        namesAll(page);
        Check.end();
    }

    private static void play(String[] lines) {
        Check.holds("that an example begins with a new object", lines[0].equals(BEGIN));
        Calls x = new Calls();
        Map<String, Integer> variables = new HashMap<>();
        for (int i = 1; i < lines.length; i++) {
            Matcher call = CALL.matcher(lines[i]);
            if (!call.matches()) {
                Check.fault("an example cannot be read: " + lines[i]);
                continue;
            }
            String[] words = call.group(4).split(", ");
            int[] arguments = new int[words.length];
            for (int k = 0; k < words.length; k++) {
                Integer known = variables.get(words[k]);
                arguments[k] = known != null ? known : Integer.parseInt(words[k]);
            }
            x.does(Long.parseLong(call.group(5)), call.group(3), arguments);
            if (call.group(2) != null) {
                variables.put(call.group(2), Integer.parseInt(call.group(5)));
            }
        }
    }

    private static void namesAll(String page) {
        for (Method method : CubicForms.class.getDeclaredMethods()) {
            if (Modifier.isPublic(method.getModifiers())) {
                Check.holds("that the page names " + method.getName(), page.contains("`" + method.getName() + "`"));
            }
        }
        for (Field field : CubicForms.class.getDeclaredFields()) {
            if (Modifier.isPublic(field.getModifiers())) {
                Check.holds("that the page names " + field.getName(), page.contains("`" + field.getName() + "`"));
            }
        }
    }
}
