import java.lang.reflect.Constructor;
import java.lang.reflect.Field;
import java.lang.reflect.Method;
import java.lang.reflect.Modifier;
import java.nio.file.Files;
import java.nio.file.Path;
import java.util.Set;
import java.util.TreeSet;
import java.util.regex.Matcher;
import java.util.regex.Pattern;

/** The public face as the document has it, and those rules of LANGUAGE.md that the source's text shows. */
public final class FaceTest {
    public static void main(String[] args) throws Exception {
        Path root = Path.of(args.length > 0 ? args[0] : ".");
        String document = Files.readString(root.resolve("../shared/DOC.md"));
        String source = Files.readString(root.resolve("src/main/java/ShoeCorner.java"));
        methods(document);
        constants(document);
        members();
        nested();
        language(source);
        Due.end("FaceTest");
    }

    private static void methods(String document) {
        Set<String> due = new TreeSet<>();
        Matcher m = Pattern.compile("(?m)^    public int (\\w+)\\(([^)]*)\\);").matcher(document);
        while (m.find()) {
            due.add(m.group(1) + " " + (m.group(2).isEmpty() ? 0 : m.group(2).split(",").length));
        }
        Set<String> is = new TreeSet<>();
        for (Method method : ShoeCorner.class.getDeclaredMethods()) {
            if (Modifier.isPublic(method.getModifiers())) {
                is.add(method.getName() + " " + method.getParameterCount());
                Due.holds(method + " gives an int", method.getReturnType() == int.class);
                for (Class<?> type : method.getParameterTypes()) {
                    Due.holds(method + " takes ints", type == int.class);
                }
            }
        }
        Due.holds("methods " + is + " are " + due, is.equals(due) && due.size() == 39);
    }

    private static void constants(String document) throws Exception {
        Matcher line = Pattern.compile("public static final int ([^;]*);").matcher(document);
        Due.holds("the document has constants", line.find());
        Matcher m = Pattern.compile("(\\w+) = (-\\d+)").matcher(line.group(1));
        int found = 0;
        while (m.find()) {
            found++;
            Due.due(m.group(1), ShoeCorner.class.getField(m.group(1)).getInt(null), Integer.parseInt(m.group(2)));
        }
        Due.due("constants", ShoeCorner.class.getFields().length, found);
    }

    private static void members() {
        Due.holds("public and final", ShoeCorner.class.getModifiers() == (Modifier.PUBLIC | Modifier.FINAL));
        Constructor<?>[] constructors = ShoeCorner.class.getDeclaredConstructors();
        Due.holds("one public constructor", constructors.length == 1 && Modifier.isPublic(constructors[0].getModifiers())
            && constructors[0].getParameterCount() == 0);
        Set<String> open = new TreeSet<>();
        for (Method method : ShoeCorner.class.getDeclaredMethods()) {
            boolean shown = Modifier.isPublic(method.getModifiers());
            Due.holds(method + " is public or private", shown || Modifier.isPrivate(method.getModifiers()));
            if (shown) {
                open.add(method.getName());
            }
        }
        for (Class<?> type : ShoeCorner.class.getDeclaredClasses()) {
            for (Method method : type.getDeclaredMethods()) {
                Due.holds(method + " bears no public name", !open.contains(method.getName()));
            }
        }
        for (Method method : ShoeCorner.class.getDeclaredMethods()) {
            Due.holds(method + " bears no public name", Modifier.isPublic(method.getModifiers())
                || !open.contains(method.getName()));
        }
        fields(ShoeCorner.class, true);
    }

    private static void fields(Class<?> type, boolean outer) {
        int own = 0;
        for (Field field : type.getDeclaredFields()) {
            int modifiers = field.getModifiers();
            boolean fixed = Modifier.isStatic(modifiers);
            own += fixed ? 0 : 1;
            Due.holds(field + " is final, if static", !fixed || Modifier.isFinal(modifiers));
            Due.holds(field + " is private", !outer || Modifier.isPrivate(modifiers)
                || fixed && Modifier.isPublic(modifiers));
        }
        Due.holds(type + " has at most twenty fields", own <= 20);
    }

    private static void nested() {
        Class<?>[] types = ShoeCorner.class.getDeclaredClasses();
        Due.holds("at most twelve classes", types.length < 12);
        for (Class<?> type : types) {
            Due.holds(type + " is static", Modifier.isStatic(type.getModifiers()));
            Due.holds(type + " is not public", !Modifier.isPublic(type.getModifiers())
                && !Modifier.isProtected(type.getModifiers()));
            fields(type, false);
            for (Method method : type.getDeclaredMethods()) {
                Due.holds(method + " has at most seven parameters", method.getParameterCount() <= 7);
            }
        }
    }

    private static void language(String source) {
        String code = source.replaceAll("(?s)/\\*.*?\\*/", "").replaceAll("//[^\n]*", "");
        String[] out = {"import", "package", "throw", "throws", "try", "catch", "synchronized", "assert", "volatile",
            "transient", "native", "System.in", "System.out", "System.err", "->", "::", "Exact", "Thread", "Object"};
        for (String word : out) {
            String bound = Character.isLetter(word.charAt(0)) ? "\\b" : "";
            Due.holds("no " + word, !Pattern.compile(bound + Pattern.quote(word) + bound).matcher(code).find());
        }
        Due.holds("signs 1 to 127 alone", source.chars().allMatch(c -> c > 0 && c < 128));
    }
}
