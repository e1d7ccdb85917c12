import java.io.IOException;
import java.lang.reflect.Method;
import java.lang.reflect.Modifier;
import java.nio.file.Files;
import java.nio.file.Path;
import java.util.Set;
import java.util.TreeSet;
import java.util.regex.Matcher;
import java.util.regex.Pattern;

/** The calls that README.md shows, each with the answer that stands behind it; no call of the face is left out. */
public final class ReadmeTest {
    private static final Pattern NEW = Pattern.compile("PipelineText x = new PipelineText\\(\\);");
    private static final Pattern PUT = Pattern.compile("put\\(x, \"(.*)\"\\);");
    private static final Pattern CALL = Pattern.compile("x\\.(\\w+)\\((.*)\\); +// (-?\\w+|'.').*");

    private static PipelineText x = null;
    private static final Set<String> SHOWN = new TreeSet<>();

    public static void main(String[] args) throws Exception {
        String shown = "";
        for (String block : blocks()) {
            shown = NEW.matcher(block).find() ? block : shown;
        }
        Due.due("README.md shows calls", shown.isEmpty(), false);
        for (String line : shown.split("\n")) {
            oneLine(line);
        }
        // text is called by put.
        SHOWN.add("text");
        for (Method method : PipelineText.class.getDeclaredMethods()) {
            boolean open = (method.getModifiers() & Modifier.PUBLIC) != 0;
            Due.due("README.md shows " + method.getName(), open && !SHOWN.contains(method.getName()), false);
        }
        Due.end();
    }

    /** What stands between the marks of Java in README.md. */
    private static String[] blocks() throws IOException {
        String[] parts = Files.readString(Path.of("README.md")).split("```java\n");
        String[] blocks = new String[parts.length - 1];
        for (int b = 0; b < blocks.length; b++) {
            blocks[b] = parts[b + 1].split("```")[0];
        }
        return blocks;
    }

    private static void oneLine(String line) throws ReflectiveOperationException {
        Matcher put = PUT.matcher(line);
        Matcher call = CALL.matcher(line);
        if (NEW.matcher(line).matches()) {
            x = new PipelineText();
        } else if (put.matches()) {
            Due.put(x, put.group(1).replace("\\n", "\n"));
        } else if (call.matches()) {
            Due.due(line, answer(call.group(1), call.group(2)), call.group(3));
        } else {
            Due.due("'" + line + "' is a call that this test can make", false, true);
        }
    }

    /** The answer to a call, a character as '.' since the calls that tell characters are shown so. */
    private static String answer(String name, String arguments) throws ReflectiveOperationException {
        SHOWN.add(name);
        String[] words = arguments.isEmpty() ? new String[0] : arguments.split(", ");
        Object[] values = new Object[words.length];
        Class<?>[] types = new Class<?>[words.length];
        for (int n = 0; n < words.length; n++) {
            values[n] = Integer.valueOf(words[n]);
            types[n] = int.class;
        }
        Object got = PipelineText.class.getMethod(name, types).invoke(x, values);
        boolean tells = name.equals("pair") || name.equals("step");
        boolean none = got.equals(PipelineText.NONE) && !name.equals("expand");
        return none ? "NONE" : tells ? "'" + (char) (int) got + "'" : got.toString();
    }
}
