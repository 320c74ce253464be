/** Promises 27 to 35: sheet, mark, pour, reads, copy, lay, ask, item, rest. */
public final class SheetsTest {
    private static final int BAD = ShoeCorner.BAD, NO = ShoeCorner.NO, NONE = ShoeCorner.NONE,
        NOTHING = ShoeCorner.NOTHING, KIND = ShoeCorner.KIND, INDEX = ShoeCorner.INDEX, SIZE = ShoeCorner.SIZE;
    private static final int MIN = Integer.MIN_VALUE, MAX = Integer.MAX_VALUE;

    public static void main(String[] args) {
        promise27Sheet();
        promise28Mark();
        promise29Pour();
        promise30Reads();
        promise31Copy();
        promise32Lay();
        promise33Ask();
        promise34Item();
        promise35Rest();
        Due.end("SheetsTest");
    }

    /** A place of a sheet, by slot 4. */
    private static int place(ShoeCorner x, int sheet, int place) {
        x.lay(4, 2, sheet);
        return x.item(4, place);
    }

    private static void promise27Sheet() {
        ShoeCorner x = new ShoeCorner();
        Due.due("24", x.sheet(3, 1, 24), 24);
        Due.due("last place", x.mark(3, 23, 5), 1);
        Due.due("no place 24", x.mark(3, 24, 5), INDEX);
        Due.due("0", x.sheet(0, 0, 0), 0);
        Due.due("no place 0", x.mark(0, 0, 5), INDEX);
        Due.due("anew", x.sheet(3, 1, 24), 24);
        Due.due("all 0", place(x, 3, 23), 0);
        int[][] bad = {{-1, 0, 1}, {4, 0, 1}, {0, -2, 1}, {0, 2, 1}, {0, 0, 25}, {0, 1, MAX}, {4, 0, -1}, {4, -1, 0}};
        for (int[] b : bad) {
            Due.due("bad sheet", x.sheet(b[0], b[1], b[2]), BAD);
        }
        Due.due("size", x.sheet(3, 0, -1), SIZE);
        Due.due("size", x.sheet(3, 1, MIN), SIZE);
        Due.due("as before", x.mark(3, 23, 6), 1);
        for (int n : new int[] {0, -1, 25, MIN, MAX}) {
            x.sheet(3, 0, 1);
            Due.due("missing, n any", x.sheet(3, -1, n), 0);
            Due.due("is missing", x.mark(3, 0, 1), NOTHING);
        }
    }

    private static void promise28Mark() {
        ShoeCorner x = new ShoeCorner();
        x.sheet(0, 0, 2);
        x.sheet(1, 1, 2);
        int[][] shorts = {{32767, 32767}, {32768, -32768}, {-32769, 32767}, {65536, 0}, {MAX, -1}, {MIN, 0}, {-5, -5}};
        for (int[] s : shorts) {
            Due.due("mark " + s[0], x.mark(0, 1, s[0]), 1);
            Due.due("is", place(x, 0, 1), s[1]);
        }
        for (int v : new int[] {99999, -99999, 0, 77}) {
            Due.due("mark " + v, x.mark(1, 1, v), 1);
            Due.due("is", place(x, 1, 1), v);
        }
        Due.due("no number", x.mark(1, 0, NONE), 1);
        Due.due("is none", place(x, 1, 0), KIND);
        Due.due("a number again", x.mark(1, 0, 3), 1);
        Due.due("is", place(x, 1, 0), 3);
        Due.due("bad sheet", x.mark(4, 9, NONE), BAD);
        Due.due("bad sheet", x.mark(-1, 9, NONE), BAD);
        Due.due("missing", x.mark(2, 9, NONE), NOTHING);
        Due.due("no place", x.mark(0, 2, NONE), INDEX);
        Due.due("no place", x.mark(0, -1, 1), INDEX);
        Due.due("no place", x.mark(1, 2, 100000), INDEX);
        Due.due("none in shorts", x.mark(0, 1, NONE), KIND);
        for (int v : new int[] {100000, -100000, MIN, MAX, BAD}) {
            Due.due("bad in floats", x.mark(1, 1, v), BAD);
        }
        Due.due("as before", place(x, 1, 1), 77);
        Due.due("as before", place(x, 0, 1), -5);
    }

    private static void promise29Pour() {
        ShoeCorner x = new ShoeCorner();
        for (int i = 0; i < 5; i++) {
            x.boy(0, 0, 10 + i, 1);
        }
        x.sheet(0, 1, 4);
        x.mark(0, 0, 10);
        x.mark(0, 1, NONE);
        x.mark(0, 2, 100);
        x.mark(0, 3, -3);
        Due.due("two are otherwise", x.pour(0), 2);
        int[] prices = {10, 11, 99, 1, 14};
        for (int i = 0; i < 5; i++) {
            Due.due("price of " + i, x.told(i, 2), prices[i]);
        }
        Due.due("none is otherwise", x.pour(0), 0);
        x.sheet(1, 0, 24);
        x.mark(1, 7, 50);
        Due.due("more places than boys", x.pour(1), 4);
        Due.due("0 is held to 1", x.told(4, 2), 1);
        x.sheet(1, 0, 0);
        Due.due("no places", x.pour(1), 0);
        Due.due("missing", x.pour(2), NOTHING);
        Due.due("4", x.pour(4), BAD);
        Due.due("-1", x.pour(-1), BAD);
    }

    private static void promise30Reads() {
        ShoeCorner x = new ShoeCorner();
        x.boy(0, 0, 10, 1);
        x.boy(0, 9, 20, 1);
        Due.text(x, "shine 40");
        x.seed(MinutesTest.oneMan(0, 0, 9));
        x.minutes(1);
        x.sheet(0, 1, 2);
        Due.due("0 is not 10", x.reads(0), 0);
        x.mark(0, 0, 10);
        Due.due("all are", x.reads(0), NONE);
        x.mark(0, 1, 5);
        Due.due("5 is not 0", x.reads(0), 1);
        x.mark(0, 0, NONE);
        x.mark(0, 1, NONE);
        Due.due("numbers alone", x.reads(0), NONE);
        x.sheet(0, 1, 4);
        x.mark(0, 0, 10);
        Due.due("no such boy", x.reads(0), 2);
        x.mark(0, 2, NONE);
        Due.due("no such boy", x.reads(0), 3);
        x.mark(0, 3, NONE);
        Due.due("none", x.reads(0), NONE);
        x.sheet(0, 0, 0);
        Due.due("no places", x.reads(0), NONE);
        Due.due("missing", x.reads(1), NOTHING);
        Due.due("4", x.reads(4), BAD);
        Due.due("-1", x.reads(-1), BAD);
    }

    private static void promise31Copy() {
        ShoeCorner x = new ShoeCorner();
        x.sheet(0, 0, 5);
        x.sheet(1, 0, 3);
        x.sheet(2, 1, 5);
        for (int i = 0; i < 5; i++) {
            x.mark(0, i, 10 + i);
            x.mark(2, i, i == 2 ? NONE : 20 + i);
        }
        Due.due("copy", x.copy(0, 3, 1, 1, 2), 2);
        int[] one = {0, 13, 14};
        for (int i = 0; i < 3; i++) {
            Due.due("place " + i, place(x, 1, i), one[i]);
        }
        Due.due("forth within one", x.copy(0, 0, 0, 1, 4), 4);
        int[] forth = {10, 10, 11, 12, 13};
        for (int i = 0; i < 5; i++) {
            Due.due("place " + i, place(x, 0, i), forth[i]);
        }
        Due.due("back within one", x.copy(2, 1, 2, 0, 4), 4);
        int[] back = {21, KIND, 23, 24, 24};
        for (int i = 0; i < 5; i++) {
            Due.due("place " + i, place(x, 2, i), back[i]);
        }
        Due.due("none at the end", x.copy(0, 5, 1, 3, 0), 0);
        int[][] bad = {{-1, 0, 0, 0, 0}, {4, 0, 0, 0, 0}, {0, 0, -1, 0, 0}, {0, 0, 4, 0, 0}, {3, 0, 4, 0, 0}};
        for (int[] b : bad) {
            Due.due("bad copy", x.copy(b[0], b[1], b[2], b[3], b[4]), BAD);
        }
        Due.due("missing", x.copy(3, -1, 0, 0, 0), NOTHING);
        Due.due("missing", x.copy(0, 0, 3, 9, 0), NOTHING);
        Due.due("sorts", x.copy(0, -1, 2, 0, 1), KIND);
        Due.due("sorts", x.copy(2, 0, 0, 0, 0), KIND);
        int[][] out = {{-1, 0, 1}, {0, -1, 1}, {0, 0, -1}, {0, 0, 4}, {3, 0, 3}, {0, 2, 2}, {6, 0, 0}, {0, 4, 0},
            {MAX, 0, 1}, {0, MAX, 1}, {1, 1, MAX}, {MAX, MAX, MAX}, {MIN, 0, MIN}};
        for (int[] o : out) {
            Due.due("no such place", x.copy(0, o[0], 1, o[1], o[2]), INDEX);
        }
        Due.due("as before", place(x, 1, 0), 0);
    }

    private static void promise32Lay() {
        ShoeCorner x = new ShoeCorner();
        x.boy(0, 0, 10, 1);
        x.sheet(1, 1, 2);
        Due.due("nothing", x.lay(0, 0, MAX), 0);
        Due.due("a number", x.lay(0, 3, MIN), 0);
        Due.due("a boy", x.lay(0, 1, 0), 3);
        Due.due("a sheet", x.lay(0, 2, 1), 1);
        Due.due("bad boy", x.lay(0, 1, 1), BAD);
        Due.due("bad boy", x.lay(0, 1, -1), BAD);
        Due.due("bad sheet", x.lay(0, 2, 4), BAD);
        Due.due("bad sheet", x.lay(0, 2, -1), BAD);
        Due.due("missing", x.lay(0, 2, 0), NOTHING);
        Due.due("slot 5", x.lay(5, 0, 0), BAD);
        Due.due("slot -1", x.lay(-1, 0, 0), BAD);
        Due.due("thing 4", x.lay(0, 4, 0), BAD);
        Due.due("thing -1", x.lay(0, -1, 0), BAD);
        Due.due("as before", x.item(0, 1), 0);
        Due.due("nothing", x.lay(0, 0, 0), 2);
        Due.due("nothing", x.lay(0, 0, 0), 0);
        Due.due("the last slot", x.lay(4, 3, 8), 0);
    }

    private static void promise33Ask() {
        ShoeCorner x = new ShoeCorner();
        for (int kind = 0; kind < 6; kind++) {
            x.boy(kind, 0, 10, 1);
        }
        String[] under = {"0", "01", "02", "013", "024", "05"};
        int[] worth = {10, 18, 89, 36, 84, 2};
        for (int boy = 0; boy < 6; boy++) {
            x.lay(2, 1, boy);
            for (int kind = 0; kind < 6; kind++) {
                boolean is = under[boy].indexOf('0' + kind) >= 0;
                Due.due("ask " + boy + " " + kind, x.ask(2, kind), is ? worth[boy] : KIND);
            }
        }
        x.lay(2, 1, 3);
        x.set(3, 2, 50);
        x.turns(3, 5);
        Due.due("as it was then", x.ask(2, 1), 36);
        x.keep();
        x.back();
        Due.due("slots are not of an image", x.ask(2, 3), 36);
        Due.due("slot 5", x.ask(5, 0), BAD);
        Due.due("slot -1", x.ask(-1, 0), BAD);
        Due.due("kind 6", x.ask(2, 6), BAD);
        Due.due("kind -1", x.ask(0, -1), BAD);
        Due.due("nothing", x.ask(0, 0), NOTHING);
        x.lay(0, 3, 1);
        Due.due("a number", x.ask(0, 0), KIND);
        x.sheet(0, 0, 1);
        x.lay(0, 2, 0);
        Due.due("a sheet", x.ask(0, 0), KIND);
    }

    private static void promise34Item() {
        ShoeCorner x = new ShoeCorner();
        x.boy(0, 0, 10, 1);
        x.sheet(0, 1, 3);
        x.mark(0, 0, -99999);
        x.mark(0, 1, NONE);
        x.lay(1, 2, 0);
        x.mark(0, 0, 5);
        x.sheet(0, 0, 1);
        Due.due("as it was then", x.item(1, 0), -99999);
        Due.due("no number", x.item(1, 1), KIND);
        Due.due("last", x.item(1, 2), 0);
        Due.due("no place", x.item(1, 3), INDEX);
        Due.due("no place", x.item(1, -1), INDEX);
        Due.due("slot 5", x.item(5, 0), BAD);
        Due.due("slot -1", x.item(-1, 0), BAD);
        Due.due("nothing", x.item(0, 9), NOTHING);
        x.lay(0, 1, 0);
        Due.due("a boy", x.item(0, 9), KIND);
        x.lay(0, 3, 0);
        Due.due("a number", x.item(0, 9), KIND);
    }

    private static void promise35Rest() {
        ShoeCorner x = new ShoeCorner();
        x.boy(0, 0, 10, 1);
        x.sheet(0, 1, 3);
        Due.due("nothing", x.rest(0, 0), NOTHING);
        x.lay(0, 3, -11);
        Due.due("by 4", x.rest(0, 4), -3);
        Due.due("by -4", x.rest(0, -4), -3);
        Due.due("by 0", x.rest(0, 0), NO);
        x.lay(0, 3, MIN);
        Due.due("by -1", x.rest(0, -1), 0);
        Due.due("by 10", x.rest(0, 10), -8);
        x.lay(0, 3, 11);
        Due.due("by -4", x.rest(0, -4), 3);
        Due.due("slot 5", x.rest(5, 0), BAD);
        Due.due("slot -1", x.rest(-1, 0), BAD);
        x.lay(0, 1, 0);
        Due.due("a boy", x.rest(0, 0), KIND);
        x.lay(0, 2, 0);
        Due.due("a sheet", x.rest(0, 0), KIND);
    }
}
