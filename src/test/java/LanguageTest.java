import java.nio.file.Files;
import java.nio.file.Path;
import java.util.ArrayList;
import java.util.List;
import java.util.Map;
import java.util.Set;
import java.util.TreeMap;
import java.util.TreeSet;
import java.util.regex.Matcher;
import java.util.regex.Pattern;

/** Rules of LANGUAGE.md that the compiled classes show: what is called, how deep, what is made, how long methods are. */
public final class LanguageTest {
    private static final int MOST_LINES = 60, MOST_DEEP = 8;
    private static final Set<String> LIBRARY = Set.of("Object.<init>", "String.length", "String.charAt", "String.isEmpty",
        "String.equals", "String.indexOf", "String.substring", "String.toCharArray", "String.<init>",
        "StringBuilder.<init>", "StringBuilder.append", "StringBuilder.charAt", "StringBuilder.setCharAt",
        "StringBuilder.setLength", "StringBuilder.deleteCharAt", "StringBuilder.reverse", "StringBuilder.length",
        "StringBuilder.toString", "Math.max", "Math.min", "Math.abs", "Math.floorDiv", "Math.floorMod",
        "Integer.compare", "Integer.max", "Integer.min", "Integer.bitCount", "Long.compare", "Long.max", "Long.min",
        "Long.bitCount", "System.arraycopy", "Arrays.copyOf", "Arrays.copyOfRange", "Arrays.fill");

    private static final Map<String, ClassFile.Code> CODES = new TreeMap<>();

    public static void main(String[] args) throws Exception {
        Path root = Path.of(args.length > 0 ? args[0] : ".");
        List<Class<?>> types = new ArrayList<>(List.of(ShoeCorner.class.getDeclaredClasses()));
        types.add(ShoeCorner.class);
        for (Class<?> type : types) {
            for (ClassFile.Code code : new ClassFile(type).methods) {
                CODES.put(code.name(), code);
            }
        }
        Due.holds("the classes have methods", CODES.size() > 39);
        library();
        objects();
        depth();
        lines(Files.readString(root.resolve("src/main/java/ShoeCorner.java")));
        Due.end("LanguageTest");
    }

    private static void library() {
        for (ClassFile.Code code : CODES.values()) {
            for (String call : code.calls()) {
                String shortName = call.substring(call.lastIndexOf('/', call.indexOf('.')) + 1).replaceAll("\\(.*", "");
                Due.holds("rule 4: " + code.name() + " calls " + call, CODES.containsKey(call) || LIBRARY.contains(shortName));
            }
            Due.holds("rule 6: " + code.name() + " throws and catches nothing", !code.throwsOrCatches());
        }
    }

    /** Rule 12 allows more, but as long as only constructors make objects, no run of calls can fill the room. */
    private static void objects() {
        for (ClassFile.Code code : CODES.values()) {
            boolean atFirst = code.name().contains(".<init>") || code.name().contains(".<clinit>");
            Due.holds("rule 12: " + code.name() + " makes nothing", atFirst || code.made() == 0);
        }
    }

    private static void depth() {
        Map<String, Set<String>> reached = new TreeMap<>();
        for (String name : CODES.keySet()) {
            Set<String> all = new TreeSet<>();
            reach(name, all);
            reached.put(name, all);
        }
        for (String name : CODES.keySet()) {
            Due.holds("rule 11: " + name + " goes " + MOST_DEEP + " deep at most", deep(name, reached) <= MOST_DEEP);
        }
    }

    private static void reach(String name, Set<String> all) {
        for (String call : CODES.get(name).calls()) {
            if (CODES.containsKey(call) && all.add(call)) {
                reach(call, all);
            }
        }
    }

    /** How many calls stand open; methods that call one another count once each. */
    private static int deep(String name, Map<String, Set<String>> reached) {
        Set<String> together = new TreeSet<>(Set.of(name));
        for (String other : reached.get(name)) {
            if (reached.get(other).contains(name)) {
                together.add(other);
            }
        }
        int most = 0;
        for (String one : together) {
            for (String call : CODES.get(one).calls()) {
                if (CODES.containsKey(call) && !together.contains(call)) {
                    most = Math.max(most, deep(call, reached));
                }
            }
        }
        return together.size() + most;
    }

    private static void lines(String source) {
        String[] lines = source.split("\n");
        Pattern head = Pattern.compile("^(    |        )(?!if|for|while|switch)[\\w\\[\\]][\\w\\[\\] ]*\\([^;]*\\) \\{$");
        int found = 0;
        for (int i = 0; i < lines.length; i++) {
            Matcher m = head.matcher(lines[i]);
            if (m.matches()) {
                int end = i;
                while (end < lines.length && !lines[end].equals(m.group(1) + "}")) {
                    end++;
                }
                found++;
                Due.holds("rule 11: " + lines[i].strip() + " is short", end - i < MOST_LINES);
            }
        }
        Due.holds("the source has methods", found > 39);
    }
}
