import java.lang.reflect.Method;
import java.nio.file.Files;
import java.nio.file.Path;
import java.util.TreeSet;
import java.util.regex.Matcher;
import java.util.regex.Pattern;

/** The lines of README.md's example answer what they say, one after another on one object, and every call is among them. */
public final class ReadmeTest extends Bench {
    private static final Pattern TEXT = Pattern.compile("String text = \"([^\"]*)\";.*");
    private static final Pattern PUTS = Pattern.compile("for .* x\\.put\\(0, i, text\\.charAt\\(i\\)\\);");
    private static final Pattern CALL = Pattern.compile("x\\.(\\w+)\\((.*)\\);\\s+// (-?\\d+)(:.*)?");

    private static int number(String told, String text) {
        if (told.equals("text.length()")) return text.length();
        return told.equals("BellNames.NONE") ? BellNames.NONE : Integer.parseInt(told);
    }

    private static long answer(BellNames x, String name, String told, String text) throws ReflectiveOperationException {
        String[] parts = told.isEmpty() ? new String[0] : told.split(", ");
        Class<?>[] types = new Class<?>[parts.length];
        Object[] numbers = new Object[parts.length];
        for (int p = 0; p < parts.length; p++) {
            types[p] = int.class;
            numbers[p] = number(parts[p], text);
        }
        return ((Number) BellNames.class.getMethod(name, types).invoke(x, numbers)).longValue();
    }

    public static void main(String[] args) throws Exception {
        about("README.md");
        String all = Files.readString(Path.of("README.md"));
        String example = all.substring(all.indexOf("```java\n") + 8);
        TreeSet<String> left = new TreeSet<>();
        for (Method m : BellNames.class.getDeclaredMethods()) {
            if (java.lang.reflect.Modifier.isPublic(m.getModifiers())) left.add(m.getName());
        }
        BellNames x = new BellNames();
        String text = "";
        for (String line : example.substring(0, example.indexOf("```")).split("\n")) {
            Matcher told = TEXT.matcher(line);
            Matcher call = CALL.matcher(line);
            if (told.matches()) {
                text = told.group(1);
            } else if (PUTS.matcher(line).matches()) {
                for (int i = 0; i < text.length(); i++) x.put(0, i, text.charAt(i));
            } else if (call.matches()) {
                due(line, answer(x, call.group(1), call.group(2), text), Long.parseLong(call.group(3)));
                left.remove(call.group(1));
            } else {
                due("a line that is none of these", line, line.isEmpty() ? "" : "BellNames x = new BellNames();");
            }
        }
        due("calls that are not shown", left.toString(), "[]");
        end();
    }
}
