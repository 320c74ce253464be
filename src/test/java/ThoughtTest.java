/** Promises 14 to 21: behind, best, bestShare, sentAway, dry, shone, fee, fine. */
public final class ThoughtTest {
    private static final int BAD = ShoeCorner.BAD, NONE = ShoeCorner.NONE, NOTHING = ShoeCorner.NOTHING;

    public static void main(String[] args) {
        promise14Behind();
        promise15Best();
        promise15BestLeast();
        promise15BestEdges();
        promise16BestShare();
        promise17SentAway();
        promise18Dry();
        promise19Shone();
        promise20Fee();
        promise21Fine();
        Due.end("ThoughtTest");
    }

    /** A street made anew by the same calls: what is thought must be what would come. */
    private static ShoeCorner street(int seed) {
        ShoeCorner x = new ShoeCorner();
        x.seed(seed);
        x.deal(5);
        x.rule(0, 20);
        x.minutes(15);
        return x;
    }

    private static int[] all(ShoeCorner x) {
        int[] all = new int[14 + 8 * 10];
        for (int what = 0; what < 9; what++) {
            all[what] = x.count(what);
        }
        for (int what = 0; what < 5; what++) {
            all[9 + what] = x.street(what);
        }
        for (int i = 0; i < 80; i++) {
            all[14 + i] = x.told(i / 10, i % 10);
        }
        return all;
    }

    private static void unchanged(String call, ShoeCorner x, int[] before) {
        Due.holds(call + " changes nothing", java.util.Arrays.equals(before, all(x)));
    }

    private static void promise14Behind() {
        for (int seed = 1; seed < 8; seed++) {
            for (int n : new int[] {0, 1, 7, 300}) {
                ShoeCorner x = street(seed);
                ShoeCorner y = street(seed);
                int[] before = all(x);
                if (n > 0) {
                    y.minutes(n);
                }
                for (int what = 0; what < 3; what++) {
                    Due.due("behind " + n + " " + what, x.behind(n, what), y.street(what));
                }
                for (int boy = 0; boy < 5; boy++) {
                    Due.due("behind " + n + " of " + boy, x.behind(n, 3 + boy), y.told(boy, 4));
                }
                unchanged("behind", x, before);
            }
        }
        ShoeCorner x = street(1);
        int[][] bad = {{-1, 0}, {301, 0}, {1, -1}, {1, 8}, {1, Integer.MAX_VALUE}, {1, Integer.MIN_VALUE}};
        for (int[] b : bad) {
            Due.due("bad behind", x.behind(b[0], b[1]), BAD);
        }
    }

    private static void promise15Best() {
        int[] facts = {3, 1, 2};
        int[] firsts = {1, 0, 1};
        int[] lasts = {20, 9, 40};
        for (int seed = 1; seed < 6; seed++) {
            for (int which = 0; which < 3; which++) {
                int best = 0;
                int most = -1;
                for (int v = firsts[which]; v <= lasts[which]; v++) {
                    ShoeCorner y = street(seed);
                    y.set(2, facts[which], v);
                    y.minutes(40);
                    if (y.told(2, 4) > most) {
                        most = y.told(2, 4);
                        best = v;
                    }
                }
                ShoeCorner x = street(seed);
                int[] before = all(x);
                Due.due("best " + which, x.best(2, which, 40, 0), best);
                Due.due("purse by best " + which, x.best(2, which, 40, 1), most);
                unchanged("best", x, before);
            }
        }
        ShoeCorner x = street(1);
        int[][] bad = {{-1, 0, 1, 0}, {5, 0, 1, 0}, {0, -1, 1, 0}, {0, 3, 1, 0}, {0, 0, 0, 0}, {0, 0, 61, 0},
            {0, 0, 1, -1}, {0, 0, 1, 2}};
        for (int[] b : bad) {
            Due.due("bad best", x.best(b[0], b[1], b[2], b[3]), BAD);
        }
    }

    /** Nobody comes while it is wet without an end: all are alike, the least is best. */
    private static void promise15BestLeast() {
        ShoeCorner x = street(3);
        x.rule(1, 0);
        x.rule(2, 1);
        int purse = x.told(1, 4);
        int[] least = {1, 0, 1};
        for (int which = 0; which < 3; which++) {
            Due.due("least of " + which, x.best(1, which, 60, 0), least[which]);
            Due.due("purse stays", x.best(1, which, 60, 1), purse);
        }
        Due.due("least share", x.bestShare(60, 0), 0);
        Due.due("owner's stays", x.bestShare(60, 1), x.street(1));
        Due.due("least boy", x.sentAway(60, 0), 0);
        Due.due("purses stay", x.sentAway(60, 1), x.street(0));
    }

    /** One man, who pays best at the last of the values that are thought. */
    private static void promise15BestEdges() {
        ShoeCorner x = new ShoeCorner();
        x.boy(3, 0, 50, 1);
        x.rule(1, 0);
        x.seed(MinutesTest.oneMan(0, 0, 9));
        Due.text(x, "shine (r=40)*95");
        Due.due("rubs 20", x.best(0, 0, 1, 0), 20);
        Due.due("purse", x.best(0, 0, 1, 1), 51);
        Due.text(x, "shine (p=9)*95");
        Due.due("place 9", x.best(0, 1, 1, 0), 9);
        Due.text(x, "shine (p=9)*50+(p>9)*95");
        Due.due("no place 10", x.best(0, 1, 1, 0), 9);
        Due.text(x, "shine 50");
        Due.due("price 40, though it is 50", x.best(0, 2, 1, 0), 40);
        Due.due("purse", x.best(0, 2, 1, 1), 40);
        x.turns(0, 2);
        x.set(0, 2, 97);
        Due.due("share 99 of 100", x.bestShare(1, 0), 99);
        Due.due("owner's", x.bestShare(1, 1), 99);
    }

    private static void promise16BestShare() {
        for (int seed = 1; seed < 6; seed++) {
            for (int n : new int[] {1, 5, 60}) {
                int best = 0;
                int most = -1;
                for (int v = 0; v <= 99; v++) {
                    ShoeCorner y = street(seed);
                    y.rule(0, v);
                    y.minutes(n);
                    if (y.street(1) > most) {
                        most = y.street(1);
                        best = v;
                    }
                }
                ShoeCorner x = street(seed);
                int[] before = all(x);
                Due.due("best share", x.bestShare(n, 0), best);
                Due.due("owner's by it", x.bestShare(n, 1), most);
                unchanged("bestShare", x, before);
            }
        }
        ShoeCorner x = new ShoeCorner();
        Due.due("no boys", x.bestShare(60, 0), 0);
        int[][] bad = {{0, 0}, {61, 0}, {1, -1}, {1, 2}};
        for (int[] b : bad) {
            Due.due("bad bestShare", x.bestShare(b[0], b[1]), BAD);
        }
    }

    private static void promise17SentAway() {
        ShoeCorner none = new ShoeCorner();
        Due.due("no boys", none.sentAway(1, 0), NONE);
        Due.due("no boys, bad", none.sentAway(0, 0), BAD);
        Due.due("no boys, bad", none.sentAway(1, 2), BAD);
        // The dear one gets all once the cheap one is away.
        ShoeCorner x = new ShoeCorner();
        x.boy(0, 0, 2, 1);
        x.boy(0, 0, 90, 1);
        Due.text(x, "shine 50");
        x.rule(1, 0);
        x.seed(MinutesTest.oneMan(0, 0, 9));
        Due.due("as it is", x.behind(1, 0), 2);
        Due.due("the cheap one", x.sentAway(1, 0), 0);
        Due.due("the sum", x.sentAway(1, 1), 90);
        x.set(0, 2, 91);
        x.set(1, 2, 3);
        Due.due("the cheap one", x.sentAway(1, 0), 1);
        Due.due("the sum", x.sentAway(1, 1), 91);
        x.minutes(1);
        Due.due("its own as it is now", x.told(1, 4), 3);
        x.seed(MinutesTest.oneMan(0, 0, 9));
        Due.due("the cheap one again", x.sentAway(1, 0), 1);
        Due.due("the sum with its own", x.sentAway(1, 1), 94);
        ShoeCorner alone = new ShoeCorner();
        alone.boy(0, 0, 10, 1);
        alone.rule(1, 0);
        alone.seed(MinutesTest.oneMan(0, 0, 9));
        Due.due("without the one", alone.sentAway(1, 0), 0);
        Due.due("without the one", alone.sentAway(1, 1), 0);
        ShoeCorner one = street(2);
        int[] before = all(one);
        one.sentAway(60, 0);
        unchanged("sentAway", one, before);
        Due.due("behind is as before", one.behind(30, 0), street(2).behind(30, 0));
        int[][] bad = {{0, 0}, {61, 0}, {1, -1}, {1, 2}};
        for (int[] b : bad) {
            Due.due("bad sentAway", x.sentAway(b[0], b[1]), BAD);
        }
    }

    private static void promise18Dry() {
        for (int seed = 1; seed < 12; seed++) {
            ShoeCorner x = street(seed);
            ShoeCorner asItIs = street(seed);
            ShoeCorner dry = street(seed);
            for (ShoeCorner one : new ShoeCorner[] {x, asItIs, dry}) {
                one.rule(2, seed % 2);
                one.rule(1, 40);
            }
            dry.rule(1, 0);
            dry.rule(2, 0);
            dry.minutes(25);
            asItIs.minutes(25);
            int[] before = all(x);
            Due.due("dry", x.dry(25), dry.street(0) - asItIs.street(0));
            unchanged("dry", x, before);
        }
        ShoeCorner x = new ShoeCorner();
        Due.due("no boys", x.dry(60), 0);
        Due.due("0", x.dry(0), BAD);
        Due.due("61", x.dry(61), BAD);
    }

    private static void promise19Shone() {
        ShoeCorner x = new ShoeCorner();
        Due.due("missing", x.shone(0, 0), NOTHING);
        x.sheet(0, 1, 3);
        Due.due("no boys", x.shone(0, 0), NONE);
        Due.due("no boys, missing", x.shone(1, 0), NOTHING);
        x.boy(0, 0, 1, 1);
        x.boy(1, 0, 1, 1);
        x.boy(2, 0, 1, 1);
        x.boy(1, 0, 1, 1);
        // 35, 65, 75 are what the quick ones reach by 0, 1, 2 rubs.
        x.mark(0, 0, 36);
        x.mark(0, 1, 63);
        x.mark(0, 2, ShoeCorner.NONE);
        Due.due("the first quick one", x.shone(0, 0), 1);
        Due.due("signs left out", x.shone(0, 1), 3);
        x.mark(0, 2, 75 + 10);
        Due.due("grand is 10 above boy", x.shone(0, 1), 13);
        x.mark(0, 2, -99999);
        Due.due("far away", x.shone(0, 1), 3 + 99999 + 75);
        x.sheet(0, 0, 0);
        Due.due("no places", x.shone(0, 0), 0);
        Due.due("no places, differences", x.shone(0, 1), 0);
        x.sheet(0, 0, 24);
        Due.text(x, "shine r+d+p");
        Due.due("dirt 0, rubs 0 .. 23, quick", x.shone(0, 1), 18 * 19 / 2);
        Due.due("the first quick one", x.shone(0, 0), 1);
        ShoeCorner quick = new ShoeCorner();
        quick.boy(1, 0, 1, 1);
        quick.sheet(0, 0, 1);
        quick.mark(0, 0, 40);
        Due.due("as a plain boy's, but he is quick", quick.shone(0, 0), 0);
        Due.due("as a plain boy's, but he is quick", quick.shone(0, 1), 5);
        int[][] bad = {{-1, 0}, {4, 0}, {0, -1}, {0, 2}};
        for (int[] b : bad) {
            Due.due("bad shone", x.shone(b[0], b[1]), BAD);
        }
    }

    private static void promise20Fee() {
        ShoeCorner x = new ShoeCorner();
        x.seed(MinutesTest.oneMan(0, 0, 9));
        x.minutes(1);
        Due.due("lost", x.fee(), 1);
        x.boy(0, 0, 10, 1);
        x.rule(0, 50);
        x.rule(1, 0);
        x.seed(MinutesTest.oneMan(0, 0, 9));
        x.minutes(1);
        Due.due("text", Due.text(x, "fee l*1000+s"), 0);
        Due.due("by text", x.fee(), 1005);
        Due.due("text", Due.text(x, "fee 0-7"), 1);
        Due.due("it is not held", x.fee(), -7);
    }

    private static void promise21Fine() {
        ShoeCorner x = new ShoeCorner();
        Due.due("no boy", x.fine(0), BAD);
        x.boy(0, 0, 10, 1);
        x.boy(0, 9, 20, 1);
        Due.text(x, "shine 40");
        x.rule(1, 0);
        x.seed(MinutesTest.oneMan(0, 0, 9));
        x.minutes(1);
        Due.due("purse", x.fine(0), 10);
        Due.due("purse", x.fine(1), 0);
        Due.text(x, "fine d*1000-p");
        Due.due("by text", x.fine(0), 990);
        Due.due("by text", x.fine(1), 0);
        Due.text(x, "fine 9999*9999*9999");
        Due.due("ints wrap", x.fine(1), 9999 * 9999 * 9999);
        Due.due("no boy", x.fine(2), BAD);
        Due.due("-1", x.fine(-1), BAD);
    }
}
