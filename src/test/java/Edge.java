import java.io.IOException;
import java.nio.file.Files;
import java.nio.file.Path;
import java.util.Arrays;
import java.util.List;
import java.util.function.Consumer;
import java.util.function.ToIntBiFunction;
import java.util.function.ToIntFunction;
import java.util.regex.Matcher;
import java.util.regex.Pattern;

/** What tests of edges share: each says for which promise and for which words of the document it stands. */
final class Edge {
    private static final int MIN = Integer.MIN_VALUE, MAX = Integer.MAX_VALUE;
    private static String document = "";
    private static boolean[] quoted = {};
    private static String standsFor = "";

    private Edge() {
    }

    static void open(Path file) throws IOException {
        document = Files.readString(file);
        quoted = new boolean[document.length()];
    }

    /** From here on the tests stand for these words, which the promise or the terms must have. */
    static void of(int promise, String words) {
        standsFor = "promise " + promise + ", '" + words + "': ";
        int section = document.indexOf("## Promise " + promise + ":");
        int next = document.indexOf("\n## ", section);
        int place = document.indexOf(words, section);
        if (place < 0 || place > next) {
            place = document.indexOf(words);
        }
        Due.holds(standsFor + "the document says so", section >= 0 && place >= 0);
        if (place >= 0) {
            Arrays.fill(quoted, place, place + words.length(), true);
        }
    }

    /** Each sentence of the terms and of the promises has a test that stands for words of it. */
    static void allSentencesQuoted() {
        int from = document.indexOf("## Terms");
        int to = document.indexOf("## Not promised");
        Matcher m = Pattern.compile("(?s).+?(?:[^.\\s][.;](?=\\s)|\\n\\n|$)").matcher(document.substring(from, to));
        while (m.find()) {
            String piece = m.group().strip();
            boolean saysNothing = piece.isEmpty() || piece.startsWith("##") || piece.startsWith("Ahead of the calls")
                || piece.matches("```(text)?");
            boolean found = false;
            for (int i = from + m.start(); i < from + m.end(); i++) {
                found |= quoted[i];
            }
            Due.holds("a test stands for '" + piece + "'", saysNothing || found);
        }
    }

    static void due(String call, int got, int want) {
        Due.due(standsFor + call, got, want);
    }

    static void dues(String call, int[] got, int... want) {
        Due.holds(standsFor + call + " answered " + Arrays.toString(got) + ", due is " + Arrays.toString(want),
            Arrays.equals(got, want));
    }

    /** Refused with that answer in each of the states, and nothing is otherwise behind it. */
    static void refused(String call, int want, ToIntFunction<ShoeCorner> asked, List<Consumer<ShoeCorner>> states) {
        for (Consumer<ShoeCorner> state : states) {
            ShoeCorner x = new ShoeCorner();
            state.accept(x);
            due(call + " in state " + states.indexOf(state), asked.applyAsInt(x), want);
            same(call, state.andThen(asked::applyAsInt), state);
        }
    }

    static void refused(String call, int want, ToIntFunction<ShoeCorner> asked) {
        refused(call, want, asked, States.ALL);
    }

    /** Not refused in a street with all things, but nothing is otherwise behind it. */
    static void changesNothing(String call, ToIntFunction<ShoeCorner> asked) {
        changesNothing(call, asked, States.WITH_BOYS);
    }

    static void changesNothing(String call, ToIntFunction<ShoeCorner> asked, List<Consumer<ShoeCorner>> states) {
        for (Consumer<ShoeCorner> state : states) {
            same(call, state.andThen(asked::applyAsInt), state);
        }
    }

    /** Both runs of calls leave the object alike, by all that it can be asked. */
    static void same(String call, Consumer<ShoeCorner> one, Consumer<ShoeCorner> other) {
        for (States.Probe probe : States.PROBES) {
            ShoeCorner x = new ShoeCorner();
            ShoeCorner y = new ShoeCorner();
            one.accept(x);
            other.accept(y);
            Due.holds(standsFor + call + " leaves " + probe.name() + " as due",
                probe.asked().apply(x).equals(probe.asked().apply(y)));
        }
    }

    /** A number that may be low .. high: these two are taken, and what is outside answers BAD. */
    static void range(String call, int low, int high, ToIntBiFunction<ShoeCorner, Integer> asked) {
        for (Consumer<ShoeCorner> state : States.WITH_BOYS) {
            for (int v : new int[] {low, high}) {
                ShoeCorner x = new ShoeCorner();
                state.accept(x);
                int got = asked.applyAsInt(x, v);
                Due.holds(standsFor + call + " takes " + v + ", answered " + got, got > ShoeCorner.BAD);
            }
        }
        outside(call, low, high, asked);
    }

    static void outside(String call, int low, int high, ToIntBiFunction<ShoeCorner, Integer> asked) {
        for (int v : new int[] {low - 1, high + 1, MIN, MAX}) {
            refused(call + " with " + v, ShoeCorner.BAD, x -> asked.applyAsInt(x, v));
        }
    }
}
