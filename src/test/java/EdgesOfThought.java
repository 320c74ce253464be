/** Edges of promises 14 to 21: behind, best, bestShare, sentAway, dry, shone, fee, fine. */
final class EdgesOfThought {
    private static final int BAD = ShoeCorner.BAD, NONE = ShoeCorner.NONE, NOTHING = ShoeCorner.NOTHING;

    private EdgesOfThought() {
    }

    static void test() {
        nothingChanges();
        withoutTheBound();
        behind();
        best();
        bestRanges();
        bestTies();
        bestShare();
        sentAway();
        dry();
        shone();
        shoneFindings();
        fee();
        fine();
    }

    /** One boy in a dry street, and a seed that brings one man with much haste to place 0, on dirt 0. */
    private static ShoeCorner oneBoyOneMan(int kind, int place, int price, int rubs) {
        ShoeCorner x = new ShoeCorner();
        x.boy(kind, place, price, rubs);
        x.rule(1, 0);
        x.seed(MinutesTest.oneMan(0, 0, 9));
        return x;
    }

    /** Some, but that nobody comes: it is wet, and the rain has no end. */
    private static ShoeCorner nobodyComes() {
        ShoeCorner x = new ShoeCorner();
        States.some(x);
        x.rule(1, 0);
        x.rule(2, 1);
        return x;
    }

    private static void nothingChanges() {
        Edge.of(14, "(All this is only thought, from now on, z as it is, without the bound of THE MINUTE: nothing changes.)");
        Edge.changesNothing("behind(300, 0)", x -> x.behind(300, 0));
        Edge.changesNothing("behind(300, 7)", x -> x.behind(300, 7));
        Edge.changesNothing("best(0, 0, 60, 0)", x -> x.best(0, 0, 60, 0));
        Edge.changesNothing("best(1, 1, 60, 1)", x -> x.best(1, 1, 60, 1));
        Edge.changesNothing("best(4, 2, 60, 0)", x -> x.best(4, 2, 60, 0));
        Edge.changesNothing("bestShare(60, 0)", x -> x.bestShare(60, 0));
        Edge.changesNothing("sentAway(60, 1)", x -> x.sentAway(60, 1));
        Edge.changesNothing("dry(60)", x -> x.dry(60));
        Edge.changesNothing("shone(1, 0)", x -> x.shone(1, 0));
        Edge.changesNothing("fee()", x -> x.fee());
        Edge.changesNothing("fine(0)", x -> x.fine(0));
        // One thought does not go into the next one.
        Edge.changesNothing("all of them", x -> x.sentAway(9, 0) + x.bestShare(9, 1) + x.best(0, 2, 9, 0) + x.dry(9));
        ShoeCorner x = new ShoeCorner();
        States.some(x);
        int first = x.behind(40, 0);
        x.sentAway(40, 0);
        x.bestShare(40, 0);
        x.dry(40);
        x.best(2, 0, 40, 0);
        Edge.due("behind(40, 0) again", x.behind(40, 0), first);
    }

    private static void withoutTheBound() {
        Edge.of(14, "without the bound of THE MINUTE");
        ShoeCorner x = new ShoeCorner();
        for (int i = 0; i < 33; i++) {
            x.minutes(300);
        }
        x.minutes(99);
        x.boy(0, 0, 10, 1);
        x.rule(1, 0);
        x.rule(2, 0);
        x.seed(MinutesTest.oneMan(0, 0, 9));
        Edge.due("THE MINUTE", x.count(1), 9999);
        ShoeCorner y = oneBoyOneMan(0, 0, 10, 1);
        Edge.dues("at 9999 as at 0", new int[] {x.behind(300, 3), x.best(0, 0, 60, 1), x.best(0, 2, 60, 0),
            x.bestShare(60, 0), x.dry(60)}, y.behind(300, 3), y.best(0, 0, 60, 1), y.best(0, 2, 60, 0), y.bestShare(60, 0),
            y.dry(60));
        Edge.due("a man comes in it", x.behind(1, 3), 10);
        Edge.due("none comes in a minute that is none", x.minutes(1), 0);
    }

    private static void behind() {
        Edge.of(14, "BEHIND n (0 .. 300) MINUTES: what 0 PURSES, 1 OWNER's PURSE, 2 LOST;");
        ShoeCorner x = new ShoeCorner();
        States.some(x);
        Edge.dues("behind 0", new int[] {x.behind(0, 0), x.behind(0, 1), x.behind(0, 2)}, x.street(0), x.street(1), x.street(2));
        Edge.range("behind(n, 0)", 0, 300, (y, v) -> y.behind(v, 0));
        Edge.of(14, "BEHIND n MINUTES: PURSES of all, together; OWNER's PURSE; LOST; PURSE of a BOY.");
        for (int n : new int[] {1, 2, 299, 300}) {
            ShoeCorner y = new ShoeCorner();
            States.some(y);
            y.minutes(n);
            Edge.dues("behind " + n, new int[] {x.behind(n, 0), x.behind(n, 1), x.behind(n, 2), x.behind(n, 3), x.behind(n, 7)},
                y.street(0), y.street(1), y.street(2), y.told(0, 4), y.told(4, 4));
        }
        Edge.of(14, "3 and k: PURSE of BOY k. BAD.");
        Edge.outside("behind(1, what)", 0, 10, (y, v) -> y.behind(1, v));
        Edge.refused("behind(1, 8) of five", BAD, y -> y.behind(1, 8), States.SOME);
        Edge.refused("behind(0, 3) of none", BAD, y -> y.behind(0, 3), States.NEW);
        ShoeCorner full = new ShoeCorner();
        States.fullest(full);
        Edge.due("the last of eight", full.behind(0, 10), full.told(7, 4));
        ShoeCorner none = new ShoeCorner();
        Edge.due("no boys, purses", none.behind(300, 0), 0);
        Edge.due("no boys, OWNER's PURSE", none.behind(300, 1), 0);
        ShoeCorner lost = new ShoeCorner();
        lost.minutes(300);
        Edge.due("no boys, lost", none.behind(300, 2), lost.street(2));
    }

    private static void best() {
        Edge.of(15, "BEST RUBS (which 0), PLACE (1), PRICE (2) of a BOY for n (1 .. 60): what 0 it, 1 PURSE. BAD.");
        Edge.range("best(0, 0, n, 0)", 1, 60, (x, v) -> x.best(0, 0, v, 0));
        Edge.range("best(0, which, 1, 0)", 0, 2, (x, v) -> x.best(0, v, 1, 0));
        Edge.range("best(0, 0, 1, what)", 0, 1, (x, v) -> x.best(0, 0, 1, v));
        Edge.outside("best(boy, 0, 1, 0)", 0, 7, (x, v) -> x.best(v, 0, 1, 0));
        Edge.refused("best(5, 0, 1, 0) of five", BAD, x -> x.best(5, 0, 1, 0), States.SOME);
        Edge.refused("best(0, 0, 1, 0) of none", BAD, x -> x.best(0, 0, 1, 0), States.NEW);
        ShoeCorner x = oneBoyOneMan(0, 0, 50, 1);
        Due.text(x, "shine (r=7)*30");
        x.rule(0, 10);
        Edge.dues("what 0 it, 1 PURSE", new int[] {x.best(0, 0, 1, 0), x.best(0, 0, 1, 1)}, 7, 45);
        x.minutes(1);
        x.set(0, 3, 7);
        x.seed(MinutesTest.oneMan(0, 0, 9));
        x.minutes(1);
        Edge.due("he has 45", x.told(0, 4), 45);
        x.rule(2, 1);
        x.rule(1, 0);
        x.minutes(10);
        x.rule(2, 0);
        x.seed(MinutesTest.oneMan(0, 0, 9));
        Edge.dues("with what he has already", new int[] {x.best(0, 0, 1, 0), x.best(0, 0, 1, 1)}, 7, 90);
    }

    private static void bestRanges() {
        Edge.of(15, "BEST RUBS of a BOY for n: the RUBS 1 .. 20 with which its PURSE behind n MINUTES is greatest;");
        ShoeCorner x = oneBoyOneMan(3, 0, 50, 5);
        Due.text(x, "shine (r=40)*95");
        Edge.dues("20", new int[] {x.best(0, 0, 1, 0), x.best(0, 0, 1, 1)}, 20, 51);
        Due.text(x, "shine (r=42)*95+50");
        Edge.dues("no 21", new int[] {x.best(0, 0, 1, 0), x.best(0, 0, 1, 1)}, 1, 50);
        Due.text(x, "shine (r=2)*95");
        Edge.dues("1", new int[] {x.best(0, 0, 1, 0), x.best(0, 0, 1, 1)}, 1, 51);
        Due.text(x, "shine (r=0)*95+50");
        Edge.dues("no 0", new int[] {x.best(0, 0, 1, 0), x.best(0, 0, 1, 1)}, 1, 50);
        Edge.of(15, "BEST PLACE of a BOY for n: the PLACE 0 .. 9, likewise.");
        Due.text(x, "shine (p=9)*95");
        Edge.dues("9", new int[] {x.best(0, 1, 1, 0), x.best(0, 1, 1, 1)}, 9, 51);
        Due.text(x, "shine (p=10)*95+50");
        Edge.dues("no 10", new int[] {x.best(0, 1, 1, 0), x.best(0, 1, 1, 1)}, 0, 50);
        Due.text(x, "shine (p=0)*95");
        Edge.dues("0", new int[] {x.best(0, 1, 1, 0), x.best(0, 1, 1, 1)}, 0, 51);
        Edge.of(15, "BEST PRICE for n: likewise, the PRICE 1 .. 40.");
        Due.text(x, "shine 50");
        Edge.dues("40, no 41, though it is 50", new int[] {x.best(0, 2, 1, 0), x.best(0, 2, 1, 1)}, 40, 40);
        x.boy(0, 0, 1, 1);
        Edge.dues("1, for another asks 1", new int[] {x.best(0, 2, 1, 0), x.best(0, 2, 1, 1)}, 1, 1);
        x.set(1, 2, 30);
        Edge.dues("30, for another asks 30", new int[] {x.best(0, 2, 1, 0), x.best(0, 2, 1, 1)}, 30, 30);
        Edge.dues("40, for one ahead of it asks 50", new int[] {x.best(1, 2, 1, 0), x.best(1, 2, 1, 1)}, 40, 40);
        x.set(0, 2, 30);
        Edge.dues("29, for one ahead of it asks 30", new int[] {x.best(1, 2, 1, 0), x.best(1, 2, 1, 1)}, 29, 29);
    }

    private static void bestTies() {
        Edge.of(15, "with which its PURSE behind n MINUTES is greatest; of several the least. BEST PLACE");
        ShoeCorner x = nobodyComes();
        int purse = x.told(2, 4);
        Edge.dues("all are alike", new int[] {x.best(2, 0, 60, 0), x.best(2, 0, 60, 1), x.best(2, 1, 60, 0), x.best(2, 1, 60, 1),
            x.best(2, 2, 60, 0), x.best(2, 2, 60, 1)}, 1, purse, 0, purse, 1, purse);
        ShoeCorner y = oneBoyOneMan(0, 0, 50, 1);
        Due.text(y, "shine (r=4|r=9|r=16)*50");
        Edge.dues("of 4, 9, 16", new int[] {y.best(0, 0, 1, 0), y.best(0, 0, 1, 1)}, 4, 50);
        Due.text(y, "shine (p=3|p=9)*50");
        Edge.dues("of 3, 9", new int[] {y.best(0, 1, 1, 0), y.best(0, 1, 1, 1)}, 3, 50);
        y.turns(0, 5);
        Due.text(y, "shine 29");
        Edge.dues("of prices that bring nothing", new int[] {y.best(0, 2, 1, 0), y.best(0, 2, 1, 1)}, 1, 0);
    }

    private static void bestShare() {
        Edge.of(16, "BEST SHARE for n (1 .. 60): what 0 it, 1 OWNER's PURSE. BAD.");
        Edge.range("bestShare(n, 0)", 1, 60, (x, v) -> x.bestShare(v, 0));
        Edge.range("bestShare(1, what)", 0, 1, (x, v) -> x.bestShare(1, v));
        Edge.of(16, "BEST SHARE for n: the SHARE 0 .. 99 with which OWNER's PURSE behind n MINUTES is greatest; of several the least.");
        ShoeCorner none = new ShoeCorner();
        Edge.dues("no boys", new int[] {none.bestShare(60, 0), none.bestShare(60, 1)}, 0, 0);
        ShoeCorner wet = nobodyComes();
        Edge.dues("nobody comes", new int[] {wet.bestShare(60, 0), wet.bestShare(60, 1)}, 0, wet.street(1));
        // What he pays; the least share that brings most; what it brings.
        int[][] due = {{1, 0, 0}, {2, 50, 1}, {3, 67, 2}, {10, 90, 9}, {50, 98, 49}, {99, 99, 98}};
        for (int[] d : due) {
            ShoeCorner x = oneBoyOneMan(0, 0, d[0], 1);
            Due.text(x, "shine 50");
            Edge.dues("he pays " + d[0], new int[] {x.bestShare(1, 0), x.bestShare(1, 1)}, d[1], d[2]);
        }
        ShoeCorner x = oneBoyOneMan(2, 0, 97, 1);
        Due.text(x, "shine 50");
        x.rule(0, 99);
        Edge.dues("of 100 by 99", new int[] {x.bestShare(1, 0), x.bestShare(1, 1)}, 99, 99);
        x.minutes(1);
        x.rule(1, 0);
        x.rule(2, 1);
        Edge.dues("with what is there already", new int[] {x.bestShare(1, 0), x.bestShare(1, 1)}, 0, 99);
    }

    private static void sentAway() {
        Edge.of(17, "SENT AWAY for n (1 .. 60): what 0 the BOY, 1 the sum. BAD;");
        Edge.range("sentAway(n, 0)", 1, 60, (x, v) -> x.sentAway(v, 0));
        Edge.range("sentAway(1, what)", 0, 1, (x, v) -> x.sentAway(1, v));
        Edge.of(17, "NONE: there are no BOYS.");
        Edge.refused("sentAway(1, 0)", NONE, x -> x.sentAway(1, 0), States.NEW);
        Edge.refused("sentAway(60, 1)", NONE, x -> x.sentAway(60, 1), States.NEW);
        Edge.refused("sentAway(0, 0) is bad first", BAD, x -> x.sentAway(0, 0), States.NEW);
        Edge.refused("sentAway(61, 1) is bad first", BAD, x -> x.sentAway(61, 1), States.NEW);
        Edge.refused("sentAway(1, 2) is bad first", BAD, x -> x.sentAway(1, 2), States.NEW);
        Edge.of(17, "SENT AWAY for n: the BOY without whom (it is never gone to) PURSES of all others and its own as it is now, together, behind n MINUTES are greatest; of several the least.");
        ShoeCorner one = oneBoyOneMan(0, 0, 10, 1);
        Edge.dues("the only one", new int[] {one.sentAway(1, 0), one.sentAway(1, 1)}, 0, 0);
        one.minutes(1);
        one.seed(MinutesTest.oneMan(0, 0, 9));
        Edge.dues("the only one, its own as it is now", new int[] {one.sentAway(1, 0), one.sentAway(1, 1)}, 0, 10);
        ShoeCorner x = oneBoyOneMan(0, 0, 2, 1);
        x.boy(0, 0, 3, 1);
        x.boy(0, 0, 90, 1);
        Edge.dues("the first, for the second asks more", new int[] {x.sentAway(1, 0), x.sentAway(1, 1)}, 0, 3);
        x.set(0, 2, 3);
        x.set(1, 2, 2);
        Edge.dues("the second, for the first asks more", new int[] {x.sentAway(1, 0), x.sentAway(1, 1)}, 1, 3);
        x.set(0, 2, 2);
        Edge.dues("all are alike", new int[] {x.sentAway(1, 0), x.sentAway(1, 1)}, 0, 2);
        ShoeCorner busy = nobodyComes();
        Edge.dues("nobody comes", new int[] {busy.sentAway(60, 0), busy.sentAway(60, 1)}, 0, busy.street(0));
        ShoeCorner full = new ShoeCorner();
        full.rule(1, 0);
        for (int i = 0; i < 8; i++) {
            full.boy(0, 0, i == 7 ? 1 : 50 + i, 1);
        }
        full.seed(MinutesTest.oneMan(0, 0, 9));
        Edge.dues("the last of eight", new int[] {full.sentAway(1, 0), full.sentAway(1, 1)}, 7, 50);
    }

    private static void dry() {
        Edge.of(18, "DRY for n (1 .. 60). BAD.");
        Edge.range("dry(n)", 1, 60, (x, v) -> x.dry(v));
        Edge.of(18, "DRY for n: PURSES of all, together, behind n MINUTES, if it were not WET now and RAIN were 0, less as it is.");
        Edge.due("no boys", new ShoeCorner().dry(60), 0);
        ShoeCorner x = oneBoyOneMan(0, 0, 10, 1);
        Edge.due("no rain, dry: nothing is otherwise", x.dry(60), 0);
        x.rule(2, 1);
        Edge.due("wet without an end: all of it", x.dry(1), 10);
        x.rule(1, 40);
        Edge.due("wet, and the draw does not turn it", x.dry(1), 10);
        x.rule(1, 51);
        x.set(0, 3, 20);
        Edge.due("wet and turned, but he is too slow", x.dry(1), 0);
        x.set(0, 3, 1);
        x.boy(0, 0, 20, 1);
        x.boy(0, 0, 30, 1);
        // As it is the rain ends in this minute, so that two more come.
        ShoeCorner wet = new ShoeCorner();
        wet.boy(0, 0, 10, 1);
        wet.boy(0, 0, 20, 1);
        wet.boy(0, 0, 30, 1);
        Due.text(wet, "shine 50");
        Due.text(x, "shine 50");
        wet.rule(2, 1);
        wet.rule(1, 51);
        wet.seed(MinutesTest.oneMan(0, 0, 9));
        wet.minutes(1);
        Edge.due("below 0: rain brought men", x.dry(1), 10 - wet.street(0));
        Edge.due("it is below 0", x.dry(1) < 0 ? 1 : 0, 1);
        ShoeCorner dry = oneBoyOneMan(0, 0, 10, 1);
        dry.rule(1, 100);
        Edge.due("it would become wet", dry.dry(1), 10);
        ShoeCorner least = oneBoyOneMan(0, 0, 10, 1);
        least.seed(MinutesTest.seedFor(new int[] {100, 3, 10, 10, 9}, new int[] {0, 1, 0, 0, 8}));
        Edge.due("no draw is below 0", least.dry(1), 0);
        least.rule(1, 1);
        Edge.due("but one is below 1", least.dry(1), 10);
        least.rule(2, 1);
        least.rule(1, 0);
        Edge.due("nor is it turned from dry, if it were", least.dry(1), 10);
        dry.rule(1, 0);
        dry.minutes(1);
        dry.rule(1, 100);
        dry.seed(MinutesTest.oneMan(0, 0, 9));
        Edge.due("less what is there already", dry.dry(1), 10);
    }

    private static void shone() {
        Edge.of(19, "SHONE by a SHEET: the BOY whose SHINE by k rubs on dirt 0 and places k that are numbers (k from 0 on) differ least (signs left out), together; of several the least.");
        ShoeCorner x = BoysTest.oneOfEachKind(1, 1);
        x.sheet(0, 1, 0);
        Edge.dues("no places", new int[] {x.shone(0, 0), x.shone(0, 1)}, 0, 0);
        x.sheet(0, 1, 24);
        for (int k = 0; k < 24; k++) {
            x.mark(0, k, NONE);
        }
        Edge.dues("no numbers", new int[] {x.shone(0, 0), x.shone(0, 1)}, 0, 0);
        x.mark(0, 0, 50);
        Edge.dues("place 0 is by 0 rubs: grand, mirror", new int[] {x.shone(0, 0), x.shone(0, 1)}, 2, 0);
        x.mark(0, 0, NONE);
        x.mark(0, 23, 49);
        Edge.dues("place 23 is by 23 rubs: 54 of the mirror", new int[] {x.shone(0, 0), x.shone(0, 1)}, 4, 5);
        x.mark(0, 23, 59);
        Edge.dues("above as below", new int[] {x.shone(0, 0), x.shone(0, 1)}, 4, 5);
        x.mark(0, 1, 70);
        x.mark(0, 0, 41);
        x.mark(0, 23, NONE);
        Edge.dues("a boy and a trickster are alike: 40, 70", new int[] {x.shone(0, 0), x.shone(0, 1)}, 0, 1);
        for (int v : new int[] {99999, -99999}) {
            x.sheet(0, 1, 24);
            for (int k = 0; k < 24; k++) {
                x.mark(0, k, v);
            }
            int sum = 0;
            for (int k = 0; k < 24; k++) {
                sum += Math.abs(x.shine(x.shone(0, 0), k, 0) - v);
            }
            Edge.due("24 places of " + v, x.shone(0, 1), sum);
        }
        x.sheet(1, 0, 1);
        x.mark(1, 0, -32768);
        Edge.dues("shorts", new int[] {x.shone(1, 0), x.shone(1, 1)}, 1, 32768 + 35);
        Due.text(x, "shine d*50+p");
        x.sheet(1, 0, 2);
        x.mark(1, 0, 3);
        x.mark(1, 1, 3);
        Edge.dues("on dirt 0, at its place", new int[] {x.shone(1, 0), x.shone(1, 1)}, 0, 0);
        ShoeCorner full = new ShoeCorner();
        States.fullest(full);
        for (int i = 0; i < 8; i++) {
            full.turns(i, i == 7 ? 2 : 0);
        }
        Due.text(full, "shine 50");
        full.sheet(0, 0, 3);
        for (int k = 0; k < 3; k++) {
            full.mark(0, k, full.shine(7, k, 0));
        }
        Edge.dues("the last of eight", new int[] {full.shone(0, 0), full.shone(0, 1)}, 7, 0);
    }

    private static void shoneFindings() {
        Edge.of(19, "SHONE by a SHEET: what 0 the BOY, 1 the differences, together. BAD; NOTHING;");
        Edge.range("shone(2, what)", 0, 1, (x, v) -> x.shone(2, v));
        Edge.outside("shone(sheet, 0)", 0, 3, (x, v) -> x.shone(v, 0));
        Edge.refused("a sheet that is missing", NOTHING, x -> x.shone(3, 0), States.SOME);
        Edge.refused("a sheet that is missing", NOTHING, x -> x.shone(3, 1), States.SOME);
        Edge.refused("bad stands ahead of it", BAD, x -> x.shone(3, 2), States.SOME);
        Edge.refused("bad stands ahead of it", BAD, x -> x.shone(3, -1), States.NEW);
        Edge.of(19, "NOTHING; NONE: there are no BOYS.");
        Edge.refused("a sheet that is missing stands ahead", NOTHING, x -> x.shone(0, 0), States.NEW);
        ShoeCorner x = new ShoeCorner();
        x.sheet(0, 0, 0);
        Edge.dues("no boys", new int[] {x.shone(0, 0), x.shone(0, 1), x.shone(0, 2), x.shone(4, 0)}, NONE, NONE, BAD, BAD);
    }

    private static void fee() {
        Edge.of(20, "What fee gives.");
        ShoeCorner x = new ShoeCorner();
        Edge.due("a new one", x.fee(), 0);
        Edge.of(20, "(what fee gives is told by fee(); without a TEXT: LOST);");
        x.minutes(30);
        Edge.due("lost", x.fee(), x.street(2));
        Due.text(x, "shine 50");
        Due.text(x, "fine 4");
        Edge.due("texts of other keys", x.fee(), x.street(2));
        Edge.of(20, "of fee l LOST, s OWNER's PURSE");
        x.boy(0, 0, 20, 1);
        x.rule(0, 99);
        x.rule(1, 0);
        x.rule(2, 0);
        x.minutes(30);
        Edge.due("OWNER's PURSE is above 0", x.street(1) > 0 ? 1 : 0, 1);
        Due.text(x, "fee l");
        Edge.due("l", x.fee(), x.street(2));
        Due.text(x, "fee s");
        Edge.due("s", x.fee(), x.street(1));
        Due.text(x, "fee 0-s*s*9999*9999");
        Edge.due("not held, ints wrap", x.fee(), -x.street(1) * x.street(1) * 9999 * 9999);
    }

    private static void fine() {
        Edge.of(21, "What fine gives for a BOY. BAD.");
        Edge.outside("fine(boy)", 0, 7, (x, v) -> x.fine(v));
        Edge.refused("fine(5) of five", BAD, x -> x.fine(5), States.SOME);
        Edge.refused("fine(0) of none", BAD, x -> x.fine(0), States.NEW);
        Edge.of(21, "(what fine gives for a BOY is told by fine(); without a TEXT: PURSE).");
        ShoeCorner x = oneBoyOneMan(0, 0, 10, 1);
        x.boy(0, 9, 99, 1);
        Edge.due("at first", x.fine(0), 0);
        x.minutes(1);
        Edge.dues("purse", new int[] {x.fine(0), x.fine(1)}, 10, 0);
        Due.text(x, "shine 3");
        Due.text(x, "fee 4");
        Edge.due("texts of other keys", x.fine(0), 10);
        Edge.of(21, "of fine p PURSE, d DONE");
        Due.text(x, "fine p*10+d");
        Edge.dues("of each", new int[] {x.fine(0), x.fine(1)}, 101, 0);
        Due.text(x, "fine 0-p*9999*9999*9999");
        Edge.due("not held, ints wrap", x.fine(0), -10 * 9999 * 9999 * 9999);
        Due.text(x, "fine d/(p-10)");
        Edge.dues("by 0", new int[] {x.fine(0), x.fine(1)}, 0, 0);
    }
}
