import java.lang.reflect.Field;
import java.lang.reflect.Method;
import java.lang.reflect.Modifier;
import java.nio.file.Files;
import java.nio.file.Path;
import java.util.ArrayList;
import java.util.List;
import java.util.Set;
import java.util.regex.Matcher;
import java.util.regex.Pattern;

/** The rules of LANGUAGE.md that can be seen from the source or from the class. */
public final class LanguageTest extends Bench {
    private static final String[] FORBIDDEN = {"throw", "throws", "try", "catch", "finally", "synchronized", "assert", "import",
        "package", "protected", "native", "volatile", "transient", "strictfp", "double", "float", "equals", "hashCode",
        "toString", "Object", "var", "yield"};
    private static final Set<String> LIBRARY = Set.of("Math.abs", "Math.max", "Math.min", "Integer.bitCount",
        "System.arraycopy", "Long.MIN_VALUE");
    private static final int MOST_LINES = 60, MOST_PARAMETERS = 7, MOST_CLASSES = 12, MOST_FIELDS = 20;

    /** The source without its comments, and with no signs inside of '..' and "..". */
    private static String bare(String source) {
        return source.replaceAll("(?s)/\\*.*?\\*/", "").replaceAll("//[^\n]*", "").replaceAll("'[^'\n]+'", "' '")
            .replaceAll("\"[^\"\n]*\"", "\"\"");
    }

    private static List<String> all(String pattern, String source) {
        List<String> found = new ArrayList<>();
        Matcher m = Pattern.compile(pattern).matcher(source);
        while (m.find()) found.add(m.group());
        return found;
    }

    private static void none(String pattern, String source) {
        due(pattern, all(pattern, source).toString(), "[]");
    }

    /** Methods are told by what stands at their place: 4 or 8 blanks, a head that opens a body, a } at the same place. */
    private static void methodsAreShort(String source) {
        String[] lines = source.split("\n");
        int methods = 0;
        for (int k = 0; k < lines.length; k++) {
            Matcher head = Pattern.compile("( {4}| {8})[a-zA-Z][\\w\\[\\] ]*\\([^)]*\\) \\{").matcher(lines[k]);
            if (!head.matches() || lines[k].trim().matches("(for|if|while|switch) .*")) continue;
            int last = k;
            while (!lines[last].equals(head.group(1) + "}")) last++;
            methods++;
            due("lines of " + lines[k].trim(), last - k + 1 <= MOST_LINES ? 1 : 0, 1);
        }
        due("methods found", methods > 60 ? 1 : 0, 1);
    }

    private static void membersAreAsTold(Class<?> of) {
        int fields = 0;
        for (Field f : of.getDeclaredFields()) {
            if (!Modifier.isStatic(f.getModifiers())) {
                fields++;
                continue;
            }
            due("static " + f.getName() + " is final", Modifier.isFinal(f.getModifiers()) ? 1 : 0, 1);
            due("type of " + f.getName(), f.getType() == int.class || f.getType() == long.class ? 1 : 0, 1);
        }
        due("fields of " + of.getName(), fields <= MOST_FIELDS ? 1 : 0, 1);
        for (Method m : of.getDeclaredMethods()) {
            due("parameters of " + m.getName(), m.getParameterCount() <= MOST_PARAMETERS ? 1 : 0, 1);
        }
    }

    public static void main(String[] args) throws Exception {
        String whole = Files.readString(Path.of("src/main/java/BellNames.java"));
        String source = bare(whole);
        about("rules 1 and 2: classes");
        Class<?>[] inside = BellNames.class.getDeclaredClasses();
        due("classes", 1 + inside.length <= MOST_CLASSES ? 1 : 0, 1);
        due("each class is seen", all("\\b(class|interface|enum|record) [A-Z]", source).size(), 1 + inside.length);
        for (Class<?> c : inside) {
            due(c.getName() + " is static", Modifier.isStatic(c.getModifiers()) ? 1 : 0, 1);
            due(c.getName() + " is not public", Modifier.isPublic(c.getModifiers()) ? 1 : 0, 0);
            due(c.getName() + " has none inside", c.getDeclaredClasses().length, 0);
        }
        none("->|::|@", source);
        about("rules 3, 4, 6 and 13: words and the library");
        for (String word : FORBIDDEN) none("\\b" + word + "\\b", source);
        none("\\w+Exact\\b", source);
        for (String use : all("\\b[A-Z][a-z]\\w*\\.\\w+", source)) {
            boolean isOwn = use.startsWith("Text.");
            due(use, isOwn || LIBRARY.contains(use) ? 1 : 0, 1);
        }
        none("[^\\n\\x20-\\x7e]", whole);
        about("rule 5: static fields; rule 11: parameters and fields");
        none("static\\s*\\{", source);
        membersAreAsTold(BellNames.class);
        for (Class<?> c : inside) membersAreAsTold(c);
        about("rule 9: loops that have no bound of their own");
        none("while \\(true\\)|for \\(;", source);
        about("rule 11: length of methods");
        methodsAreShort(source);
        about("rule 12: what is made");
        due("all that is made is a row or an object of its own", all("\\bnew \\w+", source).toString(),
            all("\\bnew (int|Sheet|Herd|Readings|Families|Walk)\\b", source).toString());
        for (String line : all("[^\n]*\\bnew \\w[^\n]*", source)) {
            boolean isWithTheObject = line.matches(" +(private )?final [\\w\\[\\]]+ \\w+ = new .*;");
            due(line.trim(), isWithTheObject || line.trim().equals("sheets[k] = new Sheet();") ? 1 : 0, 1);
        }
        end();
    }
}
