import java.lang.reflect.Method;
import java.nio.charset.StandardCharsets;
import java.util.ArrayList;
import java.util.Arrays;
import java.util.Comparator;
import java.util.List;
import java.util.Random;

/** Runs of calls by lot, each answered by ShoeCorner and by Model: promises 1 to 40 together. */
public final class RandomRunsTest {
    private static final int RUNS = 400;
    private static final int[] EDGES = {-1, 0, 1, 2, 3, 4, 5, 6, 7, 8, 9, 10, 20, 21, 24, 25, 40, 41, 60, 61, 99, 100, 101,
        300, 301, 99999, 100000, -99999, -100000, Integer.MIN_VALUE, Integer.MAX_VALUE, -1000000005, 32768, -32769};

    private final Random lot;
    private final ShoeCorner program = new ShoeCorner();
    private final Model model = new Model();
    private final StringBuilder told = new StringBuilder();
    private int calls = 0;
    private boolean same = true;

    private RandomRunsTest(long seed) {
        lot = new Random(seed);
    }

    public static void main(String[] args) throws Exception {
        int runs = args.length > 1 ? Integer.parseInt(args[1]) : RUNS;
        for (int run = 0; run < runs; run++) {
            RandomRunsTest one = new RandomRunsTest(run);
            one.run();
            Due.holds("run " + run + ":\n" + (one.same ? "" : one.told), one.same);
            if (!one.same) {
                break;
            }
        }
        Due.end("RandomRunsTest");
    }

    private static Method[] face() {
        List<Method> face = new ArrayList<>();
        for (Method m : ShoeCorner.class.getDeclaredMethods()) {
            if (java.lang.reflect.Modifier.isPublic(m.getModifiers())) {
                face.add(m);
            }
        }
        face.sort(Comparator.comparing(Method::getName));
        return face.toArray(new Method[0]);
    }

    private static final Method[] FACE = face();

    private int call(String name, int... args) throws Exception {
        Class<?>[] types = new Class<?>[args.length];
        Arrays.fill(types, int.class);
        Object[] values = Arrays.stream(args).boxed().toArray();
        int got = (Integer) ShoeCorner.class.getMethod(name, types).invoke(program, values);
        int due = (Integer) Model.class.getMethod(name, types).invoke(model, values);
        calls++;
        told.append(name).append(Arrays.toString(args)).append(" = ").append(got);
        if (got != due) {
            told.append(", due is ").append(due);
            same = false;
        }
        told.append('\n');
        return due;
    }

    private void run() throws Exception {
        if (lot.nextInt(4) > 0) {
            call("seed", lot.nextInt());
            call("deal", 1 + lot.nextInt(8));
        }
        while (calls < 500 && same) {
            int what = lot.nextInt(20);
            if (what == 0) {
                bringText();
            } else if (what == 1) {
                tellMinutes();
            } else if (what == 2) {
                call("minutes", 1 + lot.nextInt(lot.nextInt(6) == 0 ? 300 : 20));
            } else if (what == 3 && lot.nextInt(20) == 0) {
                for (int i = 0; i < 34; i++) {
                    call("minutes", 290 + lot.nextInt(11));
                }
            } else {
                Method m = FACE[lot.nextInt(FACE.length)];
                call(m.getName(), arguments(m.getName(), m.getParameterCount()));
            }
        }
    }

    /** How far the usual arguments of a call go, from 0 on. */
    private static int[] usual(String name) {
        switch (name) {
            case "boy": return new int[] {6, 10, 30, 21};
            case "told": return new int[] {8, 10};
            case "shine": return new int[] {8, 41, 10};
            case "as": case "turns": return new int[] {8, 6};
            case "set": return new int[] {8, 4, 21};
            case "deal": return new int[] {9};
            case "rule": return new int[] {3, 60};
            case "minutes": return new int[] {40};
            case "street": return new int[] {5};
            case "goesTo": return new int[] {10, 10};
            case "behind": return new int[] {301, 11};
            case "best": return new int[] {8, 3, 61, 2};
            case "bestShare": case "sentAway": return new int[] {61, 2};
            case "dry": return new int[] {61};
            case "shone": return new int[] {4, 2};
            case "fine": return new int[] {8};
            case "trim": return new int[] {97};
            case "textTold": return new int[] {14, 2};
            case "why": return new int[] {3};
            case "sheet": return new int[] {4, 2, 25};
            case "mark": return new int[] {4, 12, 110};
            case "pour": case "reads": return new int[] {4};
            case "copy": return new int[] {4, 6, 4, 6, 10};
            case "lay": return new int[] {5, 4, 8};
            case "ask": return new int[] {5, 6};
            case "item": return new int[] {5, 12};
            case "rest": return new int[] {5, 9};
            case "check": return new int[] {31};
            case "count": return new int[] {9};
            default: return new int[] {1000, 1000, 1000};
        }
    }

    private int[] arguments(String name, int many) {
        int[] usual = usual(name);
        int[] args = new int[many];
        for (int i = 0; i < many; i++) {
            args[i] = lot.nextInt(usual[i]);
            if (lot.nextInt(25) == 0) {
                args[i] = EDGES[lot.nextInt(EDGES.length)];
            } else if (lot.nextInt(40) == 0) {
                args[i] = lot.nextInt();
            }
        }
        if (name.equals("mark") && lot.nextInt(6) == 0) {
            args[2] = -1000000005;
        }
        return args;
    }

    private void bringText() throws Exception {
        String[] keys = {"shine", "fee", "fine"};
        int key = lot.nextInt(3);
        StringBuilder text = new StringBuilder(keys[key]).append(lot.nextInt(9) == 0 ? "" : " ");
        piece(text, new String[] {"rdp", "ls", "pd"}[key], lot.nextInt(9));
        if (lot.nextInt(3) == 0) {
            int at = lot.nextInt(text.length());
            String signs = "()!<=>&|+-*/ rdplsx19A" + (char) 200;
            text.insert(at, signs.charAt(lot.nextInt(signs.length())));
        }
        if (lot.nextInt(6) == 0) {
            text.deleteCharAt(lot.nextInt(text.length()));
        }
        byte[] bytes = text.toString().getBytes(StandardCharsets.ISO_8859_1);
        call("trim", 0);
        for (int i = 0; i < bytes.length; i += 12) {
            byte[] twelve = Arrays.copyOfRange(bytes, i, i + 12);
            java.nio.ByteBuffer numbers = java.nio.ByteBuffer.wrap(twelve);
            call("feed", numbers.getInt(), numbers.getInt(), numbers.getInt());
        }
        call("trim", bytes.length);
        call("text");
    }

    private void piece(StringBuilder text, String names, int depth) {
        String blank = lot.nextInt(8) == 0 ? "  " : "";
        text.append(blank);
        int what = depth == 0 ? lot.nextInt(3) : lot.nextInt(8);
        if (what == 0) {
            text.append(lot.nextInt(lot.nextInt(9) == 0 ? 20000 : 100));
        } else if (what < 3) {
            text.append(names.charAt(lot.nextInt(names.length())));
        } else if (what == 3) {
            text.append('!');
            piece(text, names, depth - 1);
        } else if (what == 4) {
            text.append('(');
            piece(text, names, depth - 1);
            text.append(')');
        } else {
            piece(text, names, depth - 1);
            text.append("|&<=>+-*/+-*".charAt(lot.nextInt(12)));
            piece(text, names, depth - 1);
        }
        text.append(blank);
    }

    /** Tells what the minutes bring, mostly right, and has it checked. */
    private void tellMinutes() throws Exception {
        if (calls > 400) {
            return;
        }
        call("check", 1);
        if (lot.nextBoolean()) {
            call("keep");
        } else {
            call("back");
        }
        int n = 1 + lot.nextInt(lot.nextInt(5) == 0 ? 30 : 5);
        for (int i = 0; i < n && same; i++) {
            call("minutes", 1);
            call("tell", call("street", 0));
            call("tell", call("street", 2) + (lot.nextInt(30) == 0 ? 1 : 0));
        }
        if (lot.nextInt(4) == 0) {
            call("tell", 5);
        }
        call("check", n + (lot.nextInt(4) == 0 ? 1 : 0));
    }
}
