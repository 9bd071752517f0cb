import java.io.IOException;
import java.lang.reflect.InvocationTargetException;
import java.lang.reflect.Method;
import java.nio.file.Files;
import java.nio.file.Path;
import java.util.regex.Matcher;
import java.util.regex.Pattern;

/** Plays the example of README.md: each of its calls answers what stands behind it. */
public final class ReadmeTest extends Checks {
    private static final Pattern TYPED = Pattern.compile("for \\(char letter : \"(.*)\"\\.toCharArray\\(\\)\\) "
            + "x\\.type\\(letter\\);");
    private static final Pattern CALL = Pattern.compile("x\\.(\\w+)\\((.*?)\\); +// (-?\\w+).*");
    private static final int CALLS = 42;

    public static void main(String[] args) throws IOException {
        Grammarsmith x = null;
        int calls = 0;
        boolean example = false;
        for (String line : Files.readAllLines(Path.of("README.md"))) {
            about("README.md, " + line);
            if (line.startsWith("```")) {
                example = line.equals("```java");
            } else if (example && line.equals("Grammarsmith x = new Grammarsmith();")) {
                x = new Grammarsmith();
            } else if (example && !line.isEmpty() && !line.startsWith("//")) {
                play(x, line);
                calls++;
            }
        }
        about("README.md");
        same("how many lines call", Integer.toString(calls), Integer.toString(CALLS));
        finish();
    }

    private static void play(Grammarsmith x, String line) {
        Matcher typed = TYPED.matcher(line);
        Matcher call = CALL.matcher(line);
        if (x != null && typed.matches()) {
            for (char letter : typed.group(1).toCharArray()) {
                x.type(letter);
            }
        } else if (x != null && call.matches()) {
            same("it", answer(x, call.group(1), call.group(2)), call.group(3));
        } else {
            fail("it is no call of an object, with its answer behind it");
        }
    }

    private static String answer(Grammarsmith x, String name, String arguments) {
        String[] words = arguments.isEmpty() ? new String[0] : arguments.split(", ");
        Object[] values = new Object[words.length];
        for (int k = 0; k < words.length; k++) {
            values[k] = value(words[k]);
        }
        for (Method method : Grammarsmith.class.getMethods()) {
            if (method.getName().equals(name) && method.getParameterCount() == values.length) {
                return answer(x, method, values);
            }
        }
        return "no such call";
    }

    private static String answer(Grammarsmith x, Method method, Object[] values) {
        try {
            return String.valueOf(method.invoke(x, values));
        } catch (InvocationTargetException thrown) {
            return thrown.getCause().getClass().getSimpleName();
        } catch (IllegalAccessException thrown) {
            return "closed";
        }
    }

    /** A number, or a constant of the class. */
    private static int value(String word) {
        try {
            return word.startsWith("Grammarsmith.")
                    ? Grammarsmith.class.getField(word.substring("Grammarsmith.".length())).getInt(null)
                    : Integer.parseInt(word);
        } catch (ReflectiveOperationException thrown) {
            fail("there is no " + word);
            return NONE;
        }
    }
}
