/** Promises 10 to 13: rule, minutes, street, goesTo. */
public final class MinutesTest {
    private static final int BAD = ShoeCorner.BAD, NONE = ShoeCorner.NONE;

    public static void main(String[] args) {
        promise10Rule();
        promise11Minutes();
        promise11Bound();
        promise11Pay();
        promise11Rain();
        promise12Street();
        promise13GoesTo();
        Due.end("MinutesTest");
    }

    private static void promise10Rule() {
        ShoeCorner x = new ShoeCorner();
        int[][] good = {{0, 99, 0}, {0, 0, 99}, {1, 100, 20}, {1, 0, 100}, {2, 1, 0}, {2, 1, 1}, {2, 0, 1}, {0, 7, 0}};
        for (int[] g : good) {
            Due.due("rule " + g[0] + " " + g[1], x.rule(g[0], g[1]), g[2]);
            Due.due("is " + g[0], x.count(2 + g[0]), g[1]);
        }
        int[][] bad = {{0, -1}, {0, 100}, {1, -1}, {1, 101}, {2, -1}, {2, 2}, {3, 0}, {-1, 0}};
        for (int[] b : bad) {
            Due.due("bad rule", x.rule(b[0], b[1]), BAD);
        }
        Due.due("share", x.count(2), 7);
        Due.due("rain", x.count(3), 0);
        Due.due("wet", x.count(4), 0);
    }

    private static int next(int z) {
        return z * 1103515245 + 12345;
    }

    /** A seed whose next draws leave the told rests; -1 leaves a draw free. */
    static int seedFor(int[] bounds, int[] rests) {
        for (int seed = 0; seed < 100000000; seed++) {
            int z = seed;
            boolean fits = true;
            for (int i = 0; i < bounds.length && fits; i++) {
                z = next(z);
                fits = rests[i] < 0 || (z >>> 8) % bounds[i] == rests[i];
            }
            if (fits) {
                return seed;
            }
        }
        throw new IllegalStateException("no such seed");
    }

    /** One man, dry, at that place, with that dirt and haste (1 .. 9). */
    static int oneMan(int where, int dirt, int haste) {
        return seedFor(new int[] {100, 3, 10, 10, 9}, new int[] {50, 1, where, dirt, haste - 1});
    }

    private static void promise11Minutes() {
        ShoeCorner x = new ShoeCorner();
        Due.due("0", x.minutes(0), BAD);
        Due.due("301", x.minutes(301), BAD);
        Due.due("-1", x.minutes(-1), BAD);
        Due.due("no minute", x.count(1), 0);
        x.boy(0, 4, 10, 4);
        x.seed(oneMan(0, 0, 9));
        Due.due("one man", x.minutes(1), 1);
        Due.due("the minute", x.count(1), 1);
        Due.due("busy", x.told(0, 5), 3);
        Due.due("done", x.told(0, 6), 1);
        Due.due("purse", x.told(0, 4), 10);
        x.seed(oneMan(4, 0, 9));
        Due.due("he is busy still", x.minutes(1), 0);
        Due.due("lost", x.street(2), 1);
        Due.due("one less", x.told(0, 5), 2);
        x.rule(1, 0);
        x.seed(seedFor(new int[] {100, 3, 100, 3}, new int[] {0, 0, -1, 0}));
        Due.due("no men in two minutes", x.minutes(2), 0);
        Due.due("not busy", x.told(0, 5), 0);
        x.seed(seedFor(new int[] {100, 3, 100, 3}, new int[] {0, 0, -1, 0}));
        x.minutes(1);
        Due.due("0 at least", x.told(0, 5), 0);
        x.seed(oneMan(4, 0, 2));
        Due.due("haste 2 is too little", x.minutes(1), 0);
        x.seed(oneMan(4, 0, 3));
        Due.due("haste 3 is enough", x.minutes(1), 1);
        Due.due("300", x.minutes(300) >= 0 ? 1 : 0, 1);
        Due.due("the minute", x.count(1), 307);
    }

    private static void promise11Bound() {
        ShoeCorner x = new ShoeCorner();
        for (int i = 0; i < 33; i++) {
            x.minutes(300);
        }
        x.minutes(98);
        Due.due("9998", x.count(1), 9998);
        x.boy(0, 0, 5, 1);
        x.rule(1, 0);
        x.rule(2, 0);
        x.seed(oneMan(0, 0, 9));
        Due.due("one is left", x.minutes(300), 1);
        Due.due("9999", x.count(1), 9999);
        int z = x.count(8);
        Due.due("none is left", x.minutes(1), 0);
        Due.due("9999 still", x.count(1), 9999);
        Due.due("no draws", x.count(8), z);
        Due.due("in thought there is no bound", x.behind(300, 0) > x.street(0) ? 1 : 0, 1);
    }

    /** What is paid by shine: none below 30, a coin more from 90 on; what of it is the owner's. */
    private static void promise11Pay() {
        int[][] due = {{29, 0, 0, 0}, {30, 0, 0, 15}, {89, 0, 0, 15}, {90, 0, 0, 16}, {90, 50, 8, 8}, {30, 50, 7, 8},
            {30, 99, 14, 1}, {29, 99, 0, 0}, {30, 6, 0, 15}, {30, 7, 1, 14}};
        int seed = oneMan(0, 0, 9);
        for (int[] d : due) {
            ShoeCorner x = new ShoeCorner();
            x.boy(0, 0, 15, 2);
            Due.text(x, "shine " + d[0]);
            x.rule(0, d[1]);
            x.seed(seed);
            Due.due("served", x.minutes(1), 1);
            Due.due("owner's by " + d[0] + ", " + d[1], x.street(1), d[2]);
            Due.due("purse by " + d[0] + ", " + d[1], x.told(0, 4), d[3]);
        }
        ShoeCorner y = new ShoeCorner();
        y.boy(0, 0, 15, 2);
        Due.text(y, "shine (r=2&d=7)*90");
        y.seed(oneMan(0, 7, 9));
        y.minutes(1);
        Due.due("by its rubs, on his dirt", y.told(0, 4), 16);
    }

    private static void promise11Rain() {
        int[] bounds = {100, 3};
        ShoeCorner x = new ShoeCorner();
        x.seed(seedFor(bounds, new int[] {20, 2}));
        x.minutes(1);
        Due.due("20 is not below 20", x.count(4), 0);
        Due.due("two men", x.street(2), 2);
        x.seed(seedFor(bounds, new int[] {19, 2}));
        x.minutes(1);
        Due.due("19 is", x.count(4), 1);
        Due.due("none when it is wet", x.street(2), 2);
        x.seed(seedFor(bounds, new int[] {20, 2}));
        x.minutes(1);
        Due.due("wet still", x.count(4), 1);
        Due.due("none when it is wet", x.street(2), 2);
        x.seed(seedFor(bounds, new int[] {19, 1}));
        x.minutes(1);
        Due.due("dry again", x.count(4), 0);
        Due.due("two more behind the rain", x.street(2), 5);
        x.seed(seedFor(bounds, new int[] {20, 1}));
        x.minutes(1);
        Due.due("once alone", x.street(2), 6);
        int z = seedFor(bounds, new int[] {20, 0});
        x.seed(z);
        x.minutes(1);
        Due.due("two draws, if none comes", x.count(8), next(next(z)));
    }

    private static void promise12Street() {
        ShoeCorner x = new ShoeCorner();
        x.boy(0, 0, 10, 20);
        x.boy(0, 9, 10, 20);
        x.boy(0, 5, 10, 2);
        x.rule(0, 30);
        Due.text(x, "shine 50");
        x.seed(oneMan(9, 0, 9));
        x.minutes(1);
        Due.due("he goes to the third", x.street(4), 4);
        x.seed(oneMan(9, 0, 9));
        x.set(1, 3, 16);
        x.minutes(1);
        Due.due("busy", x.street(4), 6);
        Due.due("purses", x.street(0), 14);
        Due.due("owner's", x.street(1), 6);
        Due.due("lost", x.street(2), 0);
        Due.due("done", x.street(3), 2);
        x.seed(oneMan(9, 0, 9));
        x.set(2, 3, 20);
        x.minutes(1);
        Due.due("lost", x.street(2), 1);
        x.rule(2, 1);
        x.rule(1, 0);
        x.minutes(30);
        Due.due("none is busy", x.street(4), 0);
        x.rule(2, 0);
        x.set(0, 3, 1);
        x.seed(oneMan(0, 0, 9));
        x.minutes(1);
        Due.due("the first is busy", x.street(4), 1);
        Due.due("done", x.street(3), 3);
        Due.due("-1", x.street(-1), BAD);
        Due.due("5", x.street(5), BAD);
    }

    private static void promise13GoesTo() {
        ShoeCorner x = new ShoeCorner();
        Due.due("no boys", x.goesTo(0, 9), NONE);
        x.boy(0, 2, 10, 4);
        x.boy(0, 6, 10, 4);
        x.boy(5, 9, 11, 4);
        x.boy(2, 4, 1, 1);
        int[] due = {3, 3, 3, 3, 3, 3, 3, 3, 3, 2};
        for (int place = 0; place < 10; place++) {
            Due.due("goesTo " + place, x.goesTo(place, 9), due[place]);
        }
        x.set(3, 2, 50);
        int[] later = {0, 0, 0, 0, 0, 1, 1, 1, 2, 2};
        for (int place = 0; place < 10; place++) {
            Due.due("goesTo " + place, x.goesTo(place, 9), later[place]);
        }
        Due.due("haste 2", x.goesTo(0, 2), NONE);
        Due.due("haste 3", x.goesTo(0, 3), 0);
        x.set(3, 3, 1);
        x.turns(3, 0);
        Due.due("haste 1", x.goesTo(0, 1), 3);
        x.seed(oneMan(2, 0, 9));
        x.minutes(1);
        Due.due("the first is busy", x.goesTo(2, 9), 1);
        ShoeCorner one = new ShoeCorner();
        one.boy(0, 0, 5, 1);
        one.seed(oneMan(0, 0, 9));
        one.minutes(1);
        Due.due("busy for 1 more", one.told(0, 5), 1);
        Due.due("is busy", one.goesTo(0, 9), NONE);
        int[][] bad = {{-1, 1}, {10, 1}, {0, 0}, {0, 10}};
        for (int[] b : bad) {
            Due.due("bad goesTo", x.goesTo(b[0], b[1]), BAD);
        }
    }
}
