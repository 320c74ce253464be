import java.util.ArrayList;
import java.util.Arrays;
import java.util.List;

/**
 * The document once more, written for itself in another way than ShoeCorner (kinds by inheritance, whole copies, laws
 * split at their loosest sign each time), so that a slip in one of the two shows when both are asked the same.
 */
final class Model {
    private static final int BAD = -1000000001, NO = -1000000002, FULL = -1000000003, NONE = -1000000005,
        NOTHING = -1000000011, KIND = -1000000012, INDEX = -1000000013, SIZE = -1000000014;

    private State state = new State();
    private State image = null;
    private final List<Integer> waiting = new ArrayList<>();
    private byte[] tape = new byte[0];
    private final Object[] sheets = new Object[4];
    private final Object[] slots = new Object[5];

    static class Rubs {
        int base(State s, Lad lad, int r, int d) {
            Law law = s.law(0);
            int v = law == null ? 100 - 60 / (1 + r) - 3 * d : law.work(new int[] {r, d, lad.place});
            return v < 0 ? 0 : v > 999 ? 999 : v;
        }

        int shine(State s, Lad lad, int r, int d) {
            return base(s, lad, r, d);
        }

        int takes(int r) {
            return 1 + r / 2;
        }

        int asks(int price) {
            return price;
        }

        int worth(int price) {
            return price;
        }
    }

    static class QuickRubs extends Rubs {
        @Override int shine(State s, Lad lad, int r, int d) {
            int v = super.shine(s, lad, r, d) - 5;
            return v < 0 ? 0 : v;
        }

        @Override int takes(int r) {
            return 1 + r / 4;
        }

        @Override int worth(int price) {
            return super.worth(price) + 8;
        }
    }

    static class TwoHandedRubs extends QuickRubs {
        @Override int shine(State s, Lad lad, int r, int d) {
            return super.shine(s, lad, r + r, d);
        }

        @Override int takes(int r) {
            return 1 + r / 6;
        }

        @Override int worth(int price) {
            return super.worth(price) * 2;
        }
    }

    static class GrandRubs extends Rubs {
        @Override int shine(State s, Lad lad, int r, int d) {
            return super.shine(s, lad, r, d) + 10;
        }

        @Override int takes(int r) {
            return super.takes(r) + 2;
        }

        @Override int asks(int price) {
            return super.asks(price) + 3;
        }

        @Override int worth(int price) {
            return 99 - price;
        }
    }

    static class MirrorRubs extends GrandRubs {
        @Override int shine(State s, Lad lad, int r, int d) {
            int v = super.shine(s, lad, r, d);
            return r > 12 ? v / 2 : v;
        }

        @Override int asks(int price) {
            return super.asks(price) * 2;
        }

        @Override int worth(int price) {
            return super.worth(price) - 5;
        }
    }

    static class TricksterRubs extends Rubs {
        @Override int shine(State s, Lad lad, int r, int d) {
            return super.shine(s, lad, r, 0);
        }

        @Override int asks(int price) {
            int v = super.asks(price) - 2;
            return v < 1 ? 1 : v;
        }

        @Override int worth(int price) {
            return 2;
        }
    }

    private static final Rubs[] RUBS = {new Rubs(), new QuickRubs(), new GrandRubs(), new TwoHandedRubs(), new MirrorRubs(),
        new TricksterRubs()};

    static boolean isOf(int kind, int upper) {
        return RUBS[upper].getClass().isInstance(RUBS[kind]);
    }

    static final class Lad {
        int kind;
        int place;
        int price;
        int rubs;
        int purse;
        int busy;
        int done;

        Lad(int kind, int place, int price, int rubs) {
            this.kind = kind;
            this.place = place;
            this.price = price;
            this.rubs = rubs;
        }

        Lad(Lad o) {
            this(o.kind, o.place, o.price, o.rubs);
            purse = o.purse;
            busy = o.busy;
            done = o.done;
        }

        Rubs way() {
            return RUBS[kind];
        }
    }

    static final class State {
        final List<Lad> lads = new ArrayList<>();
        final List<Law> laws = new ArrayList<>();
        int share;
        int owner;
        int rain = 20;
        int wet;
        int lost;
        int minute;
        int z = 1;
        Lad gone = null;

        State() {
        }

        State(State o) {
            for (Lad lad : o.lads) {
                lads.add(new Lad(lad));
            }
            laws.addAll(o.laws);
            share = o.share;
            owner = o.owner;
            rain = o.rain;
            wet = o.wet;
            lost = o.lost;
            minute = o.minute;
            z = o.z;
        }

        Law law(int key) {
            Law found = null;
            for (Law law : laws) {
                if (law.key == key) {
                    found = law;
                }
            }
            return found;
        }

        int draw(int by) {
            z = z * 1103515245 + 12345;
            return (z >>> 8) % by;
        }

        int to(int where, int haste) {
            int best = NONE;
            int cost = Integer.MAX_VALUE;
            for (int i = lads.size() - 1; i >= 0; i--) {
                Lad lad = lads.get(i);
                int c = lad.way().asks(lad.price) + (lad.place > where ? lad.place - where : where - lad.place);
                if (lad != gone && lad.busy == 0 && lad.way().takes(lad.rubs) <= haste && c <= cost) {
                    best = i;
                    cost = c;
                }
            }
            return best;
        }

        int pass() {
            int served = 0;
            for (Lad lad : lads) {
                lad.busy -= lad.busy > 0 ? 1 : 0;
            }
            int before = wet;
            if (draw(100) < rain) {
                wet = 1 - wet;
            }
            int men = draw(3);
            men = wet == 1 ? 0 : before == 1 ? men + 2 : men;
            while (men-- > 0) {
                int where = draw(10);
                int d = draw(10);
                int h = 1 + draw(9);
                int to = this.to(where, h);
                if (to == NONE) {
                    lost++;
                    continue;
                }
                Lad lad = lads.get(to);
                lad.busy = lad.way().takes(lad.rubs);
                lad.done++;
                served++;
                int shine = lad.way().shine(this, lad, lad.rubs, d);
                int paid = shine < 30 ? 0 : lad.way().asks(lad.price) + (shine >= 90 ? 1 : 0);
                owner += paid * share / 100;
                lad.purse += paid - paid * share / 100;
            }
            minute++;
            return served;
        }

        State after(int n) {
            for (int i = 0; i < n; i++) {
                pass();
            }
            return this;
        }

        int purses() {
            return lads.stream().mapToInt(lad -> lad.purse).sum();
        }
    }

    /** A law as its words; what it gives is found by splitting them at the loosest sign. */
    static final class Law {
        private static final String[] NAMES = {"rdp", "ls", "pd"};
        private static final String[] SIGNS = {"|", "&", "<=>", "+-", "*/"};
        final List<String> words = new ArrayList<>();
        final List<Integer> starts = new ArrayList<>();
        int key;
        int fault = -1;
        int operands = 0;

        Law(byte[] bytes) {
            split(bytes);
            words.add("");
            starts.add(bytes.length);
            key = Arrays.asList("shine", "fee", "fine").indexOf(words.get(0));
            int wrong = key < 0 ? 0 : firstWrong();
            fault = wrong < 0 ? -1 : starts.get(wrong);
            words.remove(words.size() - 1);
        }

        private void split(byte[] bytes) {
            int last = 32;
            for (int i = 0; i < bytes.length; i++) {
                int b = bytes[i] & 255;
                boolean letter = b >= 'a' && b <= 'z';
                boolean digit = b >= '0' && b <= '9';
                boolean goesOn = letter && last == 'a' || digit && last == '0';
                if (goesOn) {
                    words.set(words.size() - 1, words.get(words.size() - 1) + (char) b);
                } else if (b != 32) {
                    boolean glued = (letter || digit) && (last == 'a' || last == '0');
                    words.add((glued ? "#" : "") + (char) b);
                    starts.add(i);
                }
                last = letter ? 'a' : digit ? '0' : b;
            }
        }

        private boolean operand(String word) {
            return word.matches("[0-9]{1,4}") || word.length() == 1 && NAMES[key].contains(word);
        }

        /** Walks along the words with what is open: ( and ! as they stand, < for a test that has its sign. */
        private int firstWrong() {
            StringBuilder open = new StringBuilder();
            boolean wantsPiece = true;
            for (int i = 1; i < words.size(); i++) {
                String word = words.get(i);
                if (word.isEmpty()) {
                    return wantsPiece || open.indexOf("(") >= 0 ? i : -1;
                }
                if (wantsPiece) {
                    if (word.equals("(") || word.equals("!")) {
                        if (open.chars().filter(c -> c == word.charAt(0)).count() == 8) {
                            return i;
                        }
                        open.append(word);
                    } else if (operand(word)) {
                        operands++;
                        wantsPiece = false;
                        dropBangs(open);
                    } else {
                        return i;
                    }
                } else if (word.equals(")")) {
                    if (open.indexOf("(") < 0) {
                        return i;
                    }
                    open.setLength(open.lastIndexOf("("));
                    dropBangs(open);
                } else if (word.equals("|") || word.equals("&")) {
                    dropTest(open);
                    wantsPiece = true;
                } else if (word.length() == 1 && "<=>".contains(word)) {
                    if (open.length() > 0 && open.charAt(open.length() - 1) == '<') {
                        return i;
                    }
                    open.append('<');
                    wantsPiece = true;
                } else if (word.length() == 1 && "+-*/".contains(word)) {
                    wantsPiece = true;
                } else {
                    return i;
                }
            }
            return -1;
        }

        private static void dropBangs(StringBuilder open) {
            while (open.length() > 0 && open.charAt(open.length() - 1) == '!') {
                open.setLength(open.length() - 1);
            }
        }

        private static void dropTest(StringBuilder open) {
            if (open.length() > 0 && open.charAt(open.length() - 1) == '<') {
                open.setLength(open.length() - 1);
            }
        }

        int work(int[] values) {
            return work(1, words.size(), values);
        }

        private int work(int from, int to, int[] values) {
            for (String signs : SIGNS) {
                int depth = 0;
                for (int i = to - 1; i > from; i--) {
                    String word = words.get(i);
                    depth += word.equals(")") ? 1 : word.equals("(") ? -1 : 0;
                    if (depth == 0 && signs.contains(word)) {
                        return join(word.charAt(0), work(from, i, values), work(i + 1, to, values));
                    }
                }
            }
            String word = words.get(from);
            if (word.equals("!")) {
                return work(from + 1, to, values) == 0 ? 1 : 0;
            }
            if (word.equals("(")) {
                return work(from + 1, to - 1, values);
            }
            int name = NAMES[key].indexOf(word);
            return name >= 0 ? values[name] : Integer.parseInt(word);
        }

        private static int join(char sign, int a, int b) {
            boolean holds;
            switch (sign) {
                case '+': return a + b;
                case '-': return a - b;
                case '*': return a * b;
                case '/': return b == 0 ? 0 : a / b;
                case '<': holds = a < b; break;
                case '>': holds = a > b; break;
                case '=': holds = a == b; break;
                case '&': holds = a != 0 & b != 0; break;
                default: holds = a != 0 | b != 0;
            }
            return holds ? 1 : 0;
        }
    }

    private static boolean in(int v, int from, int to) {
        return v >= from && v <= to;
    }

    private boolean lad(int boy) {
        return in(boy, 0, state.lads.size() - 1);
    }

    public int boy(int kind, int place, int price, int rubs) {
        if (!in(kind, 0, 5) || !in(place, 0, 9) || !in(price, 1, 99) || !in(rubs, 1, 20)) {
            return BAD;
        }
        if (state.lads.size() == 8) {
            return FULL;
        }
        state.lads.add(new Lad(kind, place, price, rubs));
        return state.lads.size() - 1;
    }

    public int told(int boy, int what) {
        if (!lad(boy) || !in(what, 0, 9)) {
            return BAD;
        }
        Lad l = state.lads.get(boy);
        return new int[] {l.kind, l.place, l.price, l.rubs, l.purse, l.busy, l.done, l.way().takes(l.rubs),
            l.way().asks(l.price), l.way().worth(l.price)}[what];
    }

    public int shine(int boy, int r, int d) {
        if (!lad(boy) || !in(r, 0, 40) || !in(d, 0, 9)) {
            return BAD;
        }
        return state.lads.get(boy).way().shine(state, state.lads.get(boy), r, d);
    }

    public int as(int boy, int kind) {
        if (!lad(boy) || !in(kind, 0, 5)) {
            return BAD;
        }
        return isOf(state.lads.get(boy).kind, kind) ? state.lads.get(boy).price : KIND;
    }

    public int turns(int boy, int kind) {
        if (!lad(boy) || !in(kind, 0, 5)) {
            return BAD;
        }
        int was = state.lads.get(boy).kind;
        state.lads.get(boy).kind = kind;
        return was;
    }

    public int set(int boy, int what, int v) {
        if (!lad(boy) || !in(what, 1, 3) || !in(v, what == 1 ? 0 : 1, new int[] {0, 9, 99, 20}[what])) {
            return BAD;
        }
        int was = told(boy, what);
        put(state.lads.get(boy), what, v);
        return was;
    }

    private static void put(Lad l, int what, int v) {
        l.place = what == 1 ? v : l.place;
        l.price = what == 2 ? v : l.price;
        l.rubs = what == 3 ? v : l.rubs;
    }

    public int deal(int n) {
        if (!in(n, 1, 8)) {
            return BAD;
        }
        int came = 0;
        while (came < n && state.lads.size() < 8) {
            int kind = state.draw(6);
            int place = state.draw(10);
            int price = 1 + state.draw(20);
            state.lads.add(new Lad(kind, place, price, 1 + state.draw(12)));
            came++;
        }
        return came;
    }

    public int seed(int v) {
        int was = state.z;
        state.z = v;
        return was;
    }

    public int rule(int what, int v) {
        if (!in(what, 0, 2) || !in(v, 0, new int[] {99, 100, 1}[what])) {
            return BAD;
        }
        int was = new int[] {state.share, state.rain, state.wet}[what];
        state.share = what == 0 ? v : state.share;
        state.rain = what == 1 ? v : state.rain;
        state.wet = what == 2 ? v : state.wet;
        return was;
    }

    public int minutes(int n) {
        if (!in(n, 1, 300)) {
            return BAD;
        }
        int served = 0;
        for (int i = 0; i < n && state.minute < 9999; i++) {
            served += state.pass();
        }
        return served;
    }

    public int street(int what) {
        if (!in(what, 0, 4)) {
            return BAD;
        }
        int done = 0;
        int busy = 0;
        for (int i = 0; i < state.lads.size(); i++) {
            done += state.lads.get(i).done;
            busy += state.lads.get(i).busy > 0 ? 1 << i : 0;
        }
        return new int[] {state.purses(), state.owner, state.lost, done, busy}[what];
    }

    public int goesTo(int place, int h) {
        return in(place, 0, 9) && in(h, 1, 9) ? state.to(place, h) : BAD;
    }

    public int behind(int n, int what) {
        if (!in(n, 0, 300) || !in(what, 0, 2 + state.lads.size())) {
            return BAD;
        }
        State s = new State(state).after(n);
        return what == 0 ? s.purses() : what == 1 ? s.owner : what == 2 ? s.lost : s.lads.get(what - 3).purse;
    }

    /** The first of those that are most. */
    private static int most(int first, int[] of, int what) {
        int most = Arrays.stream(of).max().getAsInt();
        for (int i = 0; i < of.length; i++) {
            if (of[i] == most) {
                return what == 0 ? first + i : most;
            }
        }
        throw new IllegalStateException();
    }

    public int best(int boy, int which, int n, int what) {
        if (!lad(boy) || !in(which, 0, 2) || !in(n, 1, 60) || !in(what, 0, 1)) {
            return BAD;
        }
        int first = new int[] {1, 0, 1}[which];
        int[] purses = new int[new int[] {20, 10, 40}[which]];
        for (int i = 0; i < purses.length; i++) {
            State s = new State(state);
            put(s.lads.get(boy), new int[] {3, 1, 2}[which], first + i);
            purses[i] = s.after(n).lads.get(boy).purse;
        }
        return most(first, purses, what);
    }

    public int bestShare(int n, int what) {
        if (!in(n, 1, 60) || !in(what, 0, 1)) {
            return BAD;
        }
        int[] owners = new int[100];
        for (int i = 0; i < 100; i++) {
            State s = new State(state);
            s.share = i;
            owners[i] = s.after(n).owner;
        }
        return most(0, owners, what);
    }

    public int sentAway(int n, int what) {
        if (!in(n, 1, 60) || !in(what, 0, 1)) {
            return BAD;
        }
        if (state.lads.isEmpty()) {
            return NONE;
        }
        int[] sums = new int[state.lads.size()];
        for (int i = 0; i < sums.length; i++) {
            State s = new State(state);
            s.gone = s.lads.get(i);
            sums[i] = s.after(n).purses();
        }
        return most(0, sums, what);
    }

    public int dry(int n) {
        if (!in(n, 1, 60)) {
            return BAD;
        }
        State s = new State(state);
        s.wet = 0;
        s.rain = 0;
        return s.after(n).purses() - new State(state).after(n).purses();
    }

    private static int length(Object row) {
        return row instanceof short[] ? ((short[]) row).length : ((float[]) row).length;
    }

    /** A place of a row; NONE where it is no number. */
    private static int at(Object row, int place) {
        if (row instanceof short[]) {
            return ((short[]) row)[place];
        }
        float f = ((float[]) row)[place];
        return Float.isNaN(f) ? NONE : (int) f;
    }

    public int shone(int sheet, int what) {
        if (!in(sheet, 0, 3) || !in(what, 0, 1)) {
            return BAD;
        }
        if (sheets[sheet] == null) {
            return NOTHING;
        }
        if (state.lads.isEmpty()) {
            return NONE;
        }
        int[] lessDifferences = new int[state.lads.size()];
        for (int i = 0; i < lessDifferences.length; i++) {
            for (int k = 0; k < length(sheets[sheet]); k++) {
                int v = at(sheets[sheet], k);
                lessDifferences[i] -= v == NONE ? 0 : Math.abs(v - shine(i, k, 0));
            }
        }
        int found = most(0, lessDifferences, what);
        return what == 0 ? found : -found;
    }

    public int fee() {
        Law law = state.law(1);
        return law == null ? state.lost : law.work(new int[] {state.lost, state.owner});
    }

    public int fine(int boy) {
        if (!lad(boy)) {
            return BAD;
        }
        Law law = state.law(2);
        Lad l = state.lads.get(boy);
        return law == null ? l.purse : law.work(new int[] {l.purse, l.done});
    }

    public int feed(int a, int b, int c) {
        if (tape.length > 84) {
            return FULL;
        }
        byte[] more = java.nio.ByteBuffer.allocate(12).putInt(a).putInt(b).putInt(c).array();
        int had = tape.length;
        tape = Arrays.copyOf(tape, had + 12);
        System.arraycopy(more, 0, tape, had, 12);
        return tape.length;
    }

    public int trim(int n) {
        if (!in(n, 0, tape.length)) {
            return BAD;
        }
        tape = Arrays.copyOf(tape, n);
        return n;
    }

    public int text() {
        Law law = new Law(tape);
        tape = new byte[0];
        if (law.fault >= 0) {
            return -100 - law.fault;
        }
        if (state.laws.size() == 14) {
            return FULL;
        }
        state.laws.add(law);
        return state.laws.size() - 1;
    }

    public int textTold(int text, int what) {
        if (!in(text, 0, state.laws.size() - 1) || !in(what, 0, 1)) {
            return BAD;
        }
        return what == 0 ? state.laws.get(text).key : state.laws.get(text).operands;
    }

    public int why(int key) {
        if (!in(key, 0, 2)) {
            return BAD;
        }
        Law law = state.law(key);
        return law == null ? NONE : state.laws.indexOf(law);
    }

    public int sheet(int sheet, int sort, int n) {
        if (!in(sheet, 0, 3) || !in(sort, -1, 1) || sort >= 0 && n > 24) {
            return BAD;
        }
        if (sort >= 0 && n < 0) {
            return SIZE;
        }
        sheets[sheet] = sort < 0 ? null : sort == 0 ? new short[n] : new float[n];
        return sort < 0 ? 0 : n;
    }

    public int mark(int sheet, int place, int v) {
        if (!in(sheet, 0, 3)) {
            return BAD;
        }
        if (sheets[sheet] == null) {
            return NOTHING;
        }
        if (!in(place, 0, length(sheets[sheet]) - 1)) {
            return INDEX;
        }
        if (sheets[sheet] instanceof short[]) {
            if (v == NONE) {
                return KIND;
            }
            ((short[]) sheets[sheet])[place] = (short) v;
            return 1;
        }
        if (v != NONE && !in(v, -99999, 99999)) {
            return BAD;
        }
        ((float[]) sheets[sheet])[place] = v == NONE ? Float.NaN : v;
        return 1;
    }

    public int pour(int sheet) {
        if (!in(sheet, 0, 3)) {
            return BAD;
        }
        if (sheets[sheet] == null) {
            return NOTHING;
        }
        int changed = 0;
        for (int i = 0; i < state.lads.size() && i < length(sheets[sheet]); i++) {
            int v = at(sheets[sheet], i);
            if (v != NONE) {
                int was = state.lads.get(i).price;
                state.lads.get(i).price = v < 1 ? 1 : v > 99 ? 99 : v;
                changed += was == state.lads.get(i).price ? 0 : 1;
            }
        }
        return changed;
    }

    public int reads(int sheet) {
        if (!in(sheet, 0, 3)) {
            return BAD;
        }
        if (sheets[sheet] == null) {
            return NOTHING;
        }
        for (int i = 0; i < length(sheets[sheet]); i++) {
            int v = at(sheets[sheet], i);
            boolean same = i < state.lads.size() && v == state.lads.get(i).purse;
            if (v != NONE && !same) {
                return i;
            }
        }
        return NONE;
    }

    public int copy(int from, int place, int to, int at, int many) {
        if (!in(from, 0, 3) || !in(to, 0, 3)) {
            return BAD;
        }
        try {
            System.arraycopy(sheets[from], place, sheets[to], at, many);
        } catch (NullPointerException e) {
            return NOTHING;
        } catch (ArrayStoreException e) {
            return KIND;
        } catch (IndexOutOfBoundsException e) {
            return INDEX;
        }
        return many;
    }

    private static int thing(Object held) {
        return held == null ? 0 : held instanceof Lad ? 1 : held instanceof Integer ? 3 : 2;
    }

    public int lay(int slot, int thing, int k) {
        if (!in(slot, 0, 4) || !in(thing, 0, 3) || thing == 1 && !lad(k) || thing == 2 && !in(k, 0, 3)) {
            return BAD;
        }
        if (thing == 2 && sheets[k] == null) {
            return NOTHING;
        }
        int held = thing(slots[slot]);
        if (thing == 0) {
            slots[slot] = null;
        } else if (thing == 1) {
            slots[slot] = new Lad(state.lads.get(k));
        } else if (thing == 3) {
            slots[slot] = k;
        } else {
            slots[slot] = sheets[k] instanceof short[] ? ((short[]) sheets[k]).clone() : ((float[]) sheets[k]).clone();
        }
        return held;
    }

    public int ask(int slot, int kind) {
        if (!in(slot, 0, 4) || !in(kind, 0, 5)) {
            return BAD;
        }
        if (thing(slots[slot]) != 1) {
            return thing(slots[slot]) == 0 ? NOTHING : KIND;
        }
        Lad l = (Lad) slots[slot];
        return isOf(l.kind, kind) ? l.way().worth(l.price) : KIND;
    }

    public int item(int slot, int place) {
        if (!in(slot, 0, 4)) {
            return BAD;
        }
        if (thing(slots[slot]) != 2) {
            return thing(slots[slot]) == 0 ? NOTHING : KIND;
        }
        if (!in(place, 0, length(slots[slot]) - 1)) {
            return INDEX;
        }
        int v = at(slots[slot], place);
        return v == NONE ? KIND : v;
    }

    public int rest(int slot, int n) {
        if (!in(slot, 0, 4)) {
            return BAD;
        }
        if (thing(slots[slot]) != 3) {
            return thing(slots[slot]) == 0 ? NOTHING : KIND;
        }
        return n == 0 ? NO : (Integer) slots[slot] % n;
    }

    public int tell(int v) {
        if (waiting.size() == 60) {
            return FULL;
        }
        waiting.add(v);
        return waiting.size();
    }

    public int check(int n) {
        List<Integer> told = new ArrayList<>(waiting);
        waiting.clear();
        if (!in(n, 1, 30)) {
            return BAD;
        }
        if (image == null) {
            return NO;
        }
        List<Integer> due = new ArrayList<>();
        State s = new State(image);
        while (due.size() < 2 * n && s.minute < 9999) {
            s.pass();
            due.add(s.purses());
            due.add(s.lost);
        }
        int right = 0;
        while (right < due.size() && right < told.size() && due.get(right).equals(told.get(right))) {
            right++;
        }
        return right == due.size() && right == told.size() ? 0 : 1 + right;
    }

    public int keep() {
        image = new State(state);
        return image.lads.size();
    }

    public int back() {
        if (image == null) {
            return NO;
        }
        state = new State(image);
        return state.lads.size();
    }

    public int count(int what) {
        if (!in(what, 0, 8)) {
            return BAD;
        }
        return new int[] {state.lads.size(), state.minute, state.share, state.rain, state.wet, state.laws.size(),
            waiting.size(), tape.length, state.z}[what];
    }
}
