import java.lang.reflect.Method;
import java.nio.file.Files;
import java.nio.file.Path;
import java.util.Set;
import java.util.TreeSet;
import java.util.regex.Matcher;
import java.util.regex.Pattern;

/** The calls that README.md shows answer as it says, one behind the other, and each call of the face is among them. */
public final class ReadmeTest {
    private static final Pattern CALL = Pattern.compile("^corner\\.(\\w+)\\(([^)]*)\\);\\s*// (-?\\d+|[A-Z]+)\\b.*$");

    public static void main(String[] args) throws Exception {
        Path root = Path.of(args.length > 0 ? args[0] : ".");
        String readme = Files.readString(root.resolve("README.md"));
        int from = readme.indexOf("```java\n");
        int to = readme.indexOf("\n```", from + 1);
        Due.holds("README.md shows calls", from >= 0 && to > from);
        Set<String> left = new TreeSet<>();
        for (Method method : ShoeCorner.class.getDeclaredMethods()) {
            if (java.lang.reflect.Modifier.isPublic(method.getModifiers())) {
                left.add(method.getName());
            }
        }
        ShoeCorner corner = new ShoeCorner();
        for (String line : readme.substring(Math.max(0, from), Math.max(0, to)).split("\n")) {
            if (line.startsWith("corner.")) {
                Matcher m = CALL.matcher(line);
                Due.holds("an answer stands in '" + line + "'", m.matches());
                if (m.matches()) {
                    left.remove(m.group(1));
                    Due.due(line, answer(corner, m.group(1), m.group(2)), number(m.group(3)));
                }
            }
        }
        Due.holds("README.md shows these too: " + left, left.isEmpty());
        Due.end("ReadmeTest");
    }

    private static int answer(ShoeCorner corner, String name, String listed) throws Exception {
        String[] words = listed.isEmpty() ? new String[0] : listed.split(", ");
        Object[] values = new Object[words.length];
        Class<?>[] types = new Class<?>[words.length];
        for (int i = 0; i < words.length; i++) {
            values[i] = number(words[i].replace("ShoeCorner.", ""));
            types[i] = int.class;
        }
        return (Integer) ShoeCorner.class.getMethod(name, types).invoke(corner, values);
    }

    private static int number(String word) throws Exception {
        return Character.isUpperCase(word.charAt(0)) ? ShoeCorner.class.getField(word).getInt(null) : Integer.decode(word);
    }
}
