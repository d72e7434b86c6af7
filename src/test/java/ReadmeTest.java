import java.io.IOException;
import java.lang.reflect.Method;
import java.nio.file.Files;
import java.nio.file.Path;
import java.util.Set;
import java.util.TreeSet;
import java.util.regex.Matcher;
import java.util.regex.Pattern;

/** The examples of README.md: each call answers the number that stands behind it; and each method is named there. */
public final class ReadmeTest {
    private static final Pattern CALL = Pattern.compile("names\\.(\\w+)\\(([^)]*)\\); *// (-?\\d+)(:.*)?");
    private static final String NEW_OBJECT = "GenerationNames names = new GenerationNames();";

    private ReadmeTest() {
    }

    public static void main(String[] args) throws IOException, ReflectiveOperationException {
        Due due = new Due("README.md");
        String page = Files.readString(Path.of("README.md"));
        int examples = 0;
        for (String part : page.split("```java\n")) {
            if (part.startsWith(NEW_OBJECT)) {
                examples++;
                example(due, part.substring(0, part.indexOf("```")));
            }
        }
        due.is("examples", examples, 2);
        for (String each : publicMethods()) {
            due.holds("names " + each, page.contains("`" + each + "`"));
        }
        System.out.println("README.md: " + due.asked() + " looks, " + due.wrong() + " wrong");
        if (due.wrong() != 0) {
            System.exit(1);
        }
    }

    private static void example(Due due, String text) throws ReflectiveOperationException {
        GenerationNames names = new GenerationNames();
        for (String line : text.substring(NEW_OBJECT.length()).strip().split("\n")) {
            Matcher call = CALL.matcher(line);
            boolean isCall = call.matches();
            due.holds("a call with its answer: " + line, isCall);
            if (isCall) {
                due.is(line, answer(names, call.group(1), call.group(2)), Long.parseLong(call.group(3)));
            }
        }
    }

    private static int answer(GenerationNames names, String name, String arguments) throws ReflectiveOperationException {
        String[] texts = arguments.isEmpty() ? new String[0] : arguments.split(", *");
        Object[] values = new Object[texts.length];
        for (int i = 0; i < texts.length; i++) {
            if (texts[i].endsWith("L")) {
                values[i] = Long.decode(texts[i].substring(0, texts[i].length() - 1));
            } else {
                values[i] = Integer.decode(texts[i]);
            }
        }
        return (Integer) methodNamed(name).invoke(names, values);
    }

    private static Method methodNamed(String name) throws NoSuchMethodException {
        for (Method each : GenerationNames.class.getMethods()) {
            if (each.getName().equals(name)) {
                return each;
            }
        }
        throw new NoSuchMethodException(name);
    }

    private static Set<String> publicMethods() {
        Set<String> found = new TreeSet<>();
        for (Method each : GenerationNames.class.getMethods()) {
            if (each.getDeclaringClass() == GenerationNames.class) {
                found.add(each.getName());
            }
        }
        return found;
    }
}
