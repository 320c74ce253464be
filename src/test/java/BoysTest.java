/** Promises 1 to 9: a new object, boy, told, shine, as, turns, set, deal, seed. */
public final class BoysTest {
    private static final int BAD = ShoeCorner.BAD, KIND = ShoeCorner.KIND, FULL = ShoeCorner.FULL;
    private static final int MIN = Integer.MIN_VALUE, MAX = Integer.MAX_VALUE;

    public static void main(String[] args) {
        promise1NewObject();
        promise2Boy();
        promise3Told();
        promise4Shine();
        promise4ShineByText();
        promise5As();
        promise6Turns();
        promise7Set();
        promise8Deal();
        promise9Seed();
        Due.end("BoysTest");
    }

    /** A boy of each kind, numbered as its kind, at place 3, of that price and those rubs. */
    static ShoeCorner oneOfEachKind(int price, int rubs) {
        ShoeCorner x = new ShoeCorner();
        for (int kind = 0; kind < 6; kind++) {
            Due.due("boy of kind " + kind, x.boy(kind, 3, price, rubs), kind);
        }
        return x;
    }

    private static void promise1NewObject() {
        ShoeCorner x = new ShoeCorner();
        int[] counts = {0, 0, 0, 20, 0, 0, 0, 0, 1};
        for (int what = 0; what < counts.length; what++) {
            Due.due("new count " + what, x.count(what), counts[what]);
        }
        for (int what = 0; what < 5; what++) {
            Due.due("new street " + what, x.street(what), 0);
        }
        for (int key = 0; key < 3; key++) {
            Due.due("new why " + key, x.why(key), ShoeCorner.NONE);
        }
        for (int sheet = 0; sheet < 4; sheet++) {
            Due.due("new reads " + sheet, x.reads(sheet), ShoeCorner.NOTHING);
        }
        for (int slot = 0; slot < 5; slot++) {
            Due.due("new rest " + slot, x.rest(slot, 1), ShoeCorner.NOTHING);
        }
        Due.due("new back", x.back(), ShoeCorner.NO);
        Due.due("new told", x.told(0, 0), BAD);
    }

    private static void promise2Boy() {
        ShoeCorner x = new ShoeCorner();
        int[][] bad = {{-1, 0, 1, 1}, {6, 0, 1, 1}, {0, -1, 1, 1}, {0, 10, 1, 1}, {0, 0, 0, 1}, {0, 0, 100, 1},
            {0, 0, 1, 0}, {0, 0, 1, 21}, {MIN, 0, 1, 1}, {0, MAX, 1, 1}, {0, 0, MIN, 1}, {0, 0, 1, MAX}};
        for (int[] b : bad) {
            Due.due("bad boy", x.boy(b[0], b[1], b[2], b[3]), BAD);
        }
        Due.due("none came", x.count(0), 0);
        Due.due("least", x.boy(0, 0, 1, 1), 0);
        Due.due("greatest", x.boy(5, 9, 99, 20), 1);
        for (int i = 2; i < 8; i++) {
            Due.due("boy " + i, x.boy(i % 6, i, i, i), i);
        }
        Due.due("ninth", x.boy(0, 0, 1, 1), FULL);
        Due.due("ninth, bad", x.boy(0, 0, 0, 1), BAD);
        Due.due("eight", x.count(0), 8);
    }

    private static void promise3Told() {
        ShoeCorner x = new ShoeCorner();
        x.boy(4, 9, 98, 13);
        int[] facts = {4, 9, 98, 13, 0, 0, 0, 9, 202, -4};
        for (int what = 0; what < facts.length; what++) {
            Due.due("told " + what, x.told(0, what), facts[what]);
        }
        Due.due("told -1", x.told(0, -1), BAD);
        Due.due("told 10", x.told(0, 10), BAD);
        Due.due("told of 1", x.told(1, 0), BAD);
        Due.due("told of -1", x.told(-1, 0), BAD);
        int[][] takes = {{1, 1, 3, 1, 3, 1}, {2, 1, 4, 1, 4, 2}, {6, 3, 8, 2, 8, 6}, {11, 6, 13, 4, 13, 11}};
        int[] rubs = {1, 3, 11, 20};
        for (int row = 0; row < rubs.length; row++) {
            ShoeCorner y = oneOfEachKind(2, rubs[row]);
            for (int kind = 0; kind < 6; kind++) {
                Due.due("takes " + kind + " for " + rubs[row], y.told(kind, 7), takes[row][kind]);
            }
        }
        int[][] asks = {{1, 1, 4, 1, 8, 1}, {3, 3, 6, 3, 12, 1}, {4, 4, 7, 4, 14, 2}, {99, 99, 102, 99, 204, 97}};
        int[][] worth = {{1, 9, 98, 18, 93, 2}, {3, 11, 96, 22, 91, 2}, {4, 12, 95, 24, 90, 2}, {99, 107, 0, 214, -5, 2}};
        int[] prices = {1, 3, 4, 99};
        for (int row = 0; row < prices.length; row++) {
            ShoeCorner y = oneOfEachKind(prices[row], 1);
            for (int kind = 0; kind < 6; kind++) {
                Due.due("asks " + kind + " at " + prices[row], y.told(kind, 8), asks[row][kind]);
                Due.due("worth " + kind + " at " + prices[row], y.told(kind, 9), worth[row][kind]);
            }
        }
    }

    private static void promise4Shine() {
        ShoeCorner x = oneOfEachKind(5, 5);
        // r, d, then what each kind reaches.
        int[][] due = {{0, 0, 40, 35, 50, 35, 50, 40}, {1, 2, 64, 59, 74, 69, 74, 70}, {12, 9, 69, 64, 79, 66, 79, 96},
            {13, 9, 69, 64, 79, 66, 39, 96}, {40, 0, 99, 94, 109, 95, 54, 99}, {0, 9, 13, 8, 23, 8, 23, 40},
            {6, 4, 80, 75, 90, 79, 90, 92}};
        for (int[] row : due) {
            for (int kind = 0; kind < 6; kind++) {
                Due.due("shine of " + kind + " by " + row[0] + " on " + row[1], x.shine(kind, row[0], row[1]), row[2 + kind]);
            }
        }
        int[][] bad = {{-1, 0, 0}, {6, 0, 0}, {0, -1, 0}, {0, 41, 0}, {0, 0, -1}, {0, 0, 10}, {MAX, 0, 0}, {0, MIN, 0}};
        for (int[] b : bad) {
            Due.due("bad shine", x.shine(b[0], b[1], b[2]), BAD);
        }
    }

    private static void promise4ShineByText() {
        ShoeCorner x = oneOfEachKind(5, 5);
        Due.due("text", Due.text(x, "shine r*100+d*10+p"), 0);
        int[] due = {243, 238, 253, 438, 253, 203};
        for (int kind = 0; kind < 6; kind++) {
            Due.due("shine by text of " + kind, x.shine(kind, 2, 4), due[kind]);
        }
        Due.due("above 999", x.shine(0, 40, 0), 999);
        Due.due("above 999, grand", x.shine(2, 40, 0), 1009);
        Due.due("above 999, mirror", x.shine(4, 40, 0), 504);
        Due.due("text", Due.text(x, "shine d-5"), 1);
        int[] low = {0, 0, 10, 0, 10, 0};
        for (int kind = 0; kind < 6; kind++) {
            Due.due("below 0 of " + kind, x.shine(kind, 2, 4), low[kind]);
        }
        Due.due("quick, 0 at least", x.shine(1, 2, 9), 0);
        Due.due("boy", x.shine(0, 2, 9), 4);
    }

    private static void promise5As() {
        ShoeCorner x = new ShoeCorner();
        for (int kind = 0; kind < 6; kind++) {
            x.boy(kind, 0, 10 + kind, 1);
        }
        String[] under = {"0", "01", "02", "013", "024", "05"};
        for (int boy = 0; boy < 6; boy++) {
            for (int kind = 0; kind < 6; kind++) {
                boolean is = under[boy].indexOf('0' + kind) >= 0;
                Due.due(boy + " as " + kind, x.as(boy, kind), is ? 10 + boy : KIND);
            }
        }
        Due.due("as, no boy", x.as(6, 0), BAD);
        Due.due("as, boy -1", x.as(-1, 0), BAD);
        Due.due("as, kind 6", x.as(0, 6), BAD);
        Due.due("as, kind -1", x.as(0, -1), BAD);
    }

    private static void promise6Turns() {
        ShoeCorner x = new ShoeCorner();
        x.boy(3, 2, 10, 7);
        Due.due("turns", x.turns(0, 4), 3);
        Due.due("turns to the same", x.turns(0, 4), 4);
        Due.due("is", x.told(0, 0), 4);
        Due.due("asks", x.told(0, 8), 26);
        Due.due("place stays", x.told(0, 1), 2);
        Due.due("rubs stay", x.told(0, 3), 7);
        Due.due("as quick", x.as(0, 1), KIND);
        Due.due("kind 6", x.turns(0, 6), BAD);
        Due.due("kind -1", x.turns(0, -1), BAD);
        Due.due("no boy", x.turns(1, 0), BAD);
        Due.due("boy -1", x.turns(-1, 0), BAD);
        Due.due("still", x.told(0, 0), 4);
    }

    private static void promise7Set() {
        ShoeCorner x = new ShoeCorner();
        x.boy(0, 2, 10, 7);
        int[][] good = {{1, 0, 2}, {1, 9, 0}, {2, 1, 10}, {2, 99, 1}, {3, 1, 7}, {3, 20, 1}};
        for (int[] g : good) {
            Due.due("set " + g[0] + " " + g[1], x.set(0, g[0], g[1]), g[2]);
            Due.due("is " + g[0], x.told(0, g[0]), g[1]);
        }
        int[][] bad = {{0, 1, -1}, {0, 1, 10}, {0, 2, 0}, {0, 2, 100}, {0, 3, 0}, {0, 3, 21}, {0, 0, 1}, {0, 4, 1},
            {1, 1, 1}, {-1, 1, 1}, {0, -1, 1}, {0, MAX, 1}, {0, 2, MIN}};
        for (int[] b : bad) {
            Due.due("bad set", x.set(b[0], b[1], b[2]), BAD);
        }
        Due.due("place", x.told(0, 1), 9);
        Due.due("price", x.told(0, 2), 99);
        Due.due("rubs", x.told(0, 3), 20);
        Due.due("kind", x.told(0, 0), 0);
    }

    private static void promise8Deal() {
        ShoeCorner x = new ShoeCorner();
        Due.due("0", x.deal(0), BAD);
        Due.due("9", x.deal(9), BAD);
        Due.due("-1", x.deal(-1), BAD);
        Due.due("no draws", x.count(8), 1);
        x.boy(0, 0, 1, 1);
        Due.due("5", x.deal(5), 5);
        int z = 1;
        int[] bounds = {6, 10, 20, 12};
        for (int boy = 1; boy <= 5; boy++) {
            for (int what = 0; what < 4; what++) {
                z = z * 1103515245 + 12345;
                int rest = (z >>> 8) % bounds[what];
                Due.due("dealt " + boy + " " + what, x.told(boy, what), what < 2 ? rest : 1 + rest);
            }
        }
        Due.due("z", x.count(8), z);
        Due.due("more than there is room for", x.deal(8), 2);
        for (int i = 0; i < 8; i++) {
            z = z * 1103515245 + 12345;
        }
        Due.due("no draws for others", x.count(8), z);
        Due.due("no room", x.deal(1), 0);
        Due.due("no draws", x.count(8), z);
        Due.due("eight", x.count(0), 8);
    }

    private static void promise9Seed() {
        ShoeCorner x = new ShoeCorner();
        Due.due("seed", x.seed(-7), 1);
        Due.due("z", x.count(8), -7);
        Due.due("seed", x.seed(MIN), -7);
        Due.due("seed", x.seed(BAD), MIN);
        Due.due("z", x.count(8), BAD);
    }
}
