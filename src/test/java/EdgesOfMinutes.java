/** Edges of promises 10 to 13: rule, minutes, street, goesTo. */
final class EdgesOfMinutes {
    private static final int BAD = ShoeCorner.BAD, NONE = ShoeCorner.NONE;
    private static final int MIN = Integer.MIN_VALUE, MAX = Integer.MAX_VALUE;

    private EdgesOfMinutes() {
    }

    static void test() {
        rule();
        minutes();
        lastMinute();
        busy();
        rain();
        menBehindRain();
        whereDirtHaste();
        whoIsGoneTo();
        lost();
        paid();
        shared();
        draws();
        street();
        goesTo();
    }

    private static int drawn(int z, int times) {
        int one = z;
        for (int i = 0; i < times; i++) {
            one = one * 1103515245 + 12345;
        }
        return one;
    }

    /** The rain's draw leaves that rest, and so many men are drawn. */
    private static int seed(int rain, int men) {
        return MinutesTest.seedFor(new int[] {100, 3}, new int[] {rain, men});
    }

    private static ShoeCorner oneBoy(int kind, int place, int price, int rubs) {
        ShoeCorner x = new ShoeCorner();
        x.boy(kind, place, price, rubs);
        x.rule(1, 0);
        return x;
    }

    private static int minute(ShoeCorner x, int seed) {
        x.seed(seed);
        return x.minutes(1);
    }

    private static void rule() {
        Edge.of(10, "SHARE (what 0), RAIN (1), WET (2; 0, 1) becomes v: what it was.");
        ShoeCorner x = new ShoeCorner();
        Edge.dues("share", new int[] {x.rule(0, 99), x.rule(0, 0), x.rule(0, 0), x.count(2)}, 0, 99, 0, 0);
        Edge.dues("rain", new int[] {x.rule(1, 100), x.rule(1, 0), x.rule(1, 0), x.count(3)}, 20, 100, 0, 0);
        Edge.dues("wet", new int[] {x.rule(2, 1), x.rule(2, 1), x.rule(2, 0), x.rule(2, 0), x.count(4)}, 0, 1, 1, 0, 0);
        x.rule(0, 7);
        x.rule(1, 8);
        x.rule(2, 1);
        Edge.dues("each by itself", new int[] {x.count(2), x.count(3), x.count(4)}, 7, 8, 1);
        Edge.of(10, "SHARE 0 .. 99");
        Edge.range("rule(0, v)", 0, 99, (y, v) -> y.rule(0, v));
        Edge.of(10, "RAIN 0 .. 100");
        Edge.range("rule(1, v)", 0, 100, (y, v) -> y.rule(1, v));
        Edge.of(10, "WET (2; 0, 1)");
        Edge.range("rule(2, v)", 0, 1, (y, v) -> y.rule(2, v));
        Edge.of(10, "what it was. BAD.");
        for (int v : new int[] {0, 1}) {
            Edge.range("rule(what, " + v + ")", 0, 2, (y, what) -> y.rule(what, v));
        }
    }

    private static void minutes() {
        Edge.of(11, "n (1 .. 300) MINUTES");
        Edge.range("minutes(n)", 1, 300, (x, v) -> x.minutes(v));
        ShoeCorner x = new ShoeCorner();
        x.minutes(1);
        Edge.due("THE MINUTE", x.count(1), 1);
        x.minutes(300);
        Edge.due("THE MINUTE", x.count(1), 301);
        Edge.of(11, "THE MINUTE is 1 more.");
        Edge.same("12 minutes one by one", y -> {
            States.some(y);
            for (int i = 0; i < 12; i++) {
                y.minutes(1);
            }
        }, y -> {
            States.some(y);
            y.minutes(12);
        });
        Edge.of(11, "how many men were served in them. BAD.");
        ShoeCorner y = oneBoy(0, 0, 5, 20);
        Edge.due("none is served who is lost", y.minutes(60), 0);
        Edge.due("they were lost", y.street(2) > 0 ? 1 : 0, 1);
        y.set(0, 3, 1);
        int before = y.street(3);
        Edge.due("as many as DONE is more", y.minutes(60), y.street(3) - before);
        ShoeCorner z = oneBoy(0, 0, 5, 1);
        int served = z.minutes(30);
        Edge.due("those of these minutes alone", z.minutes(30), z.street(3) - served);
        Edge.due("no boys", new ShoeCorner().minutes(300), 0);
    }

    private static void lastMinute() {
        Edge.of(11, "(no more than up to 9999)");
        ShoeCorner x = new ShoeCorner();
        x.boy(0, 0, 5, 1);
        for (int i = 0; i < 33; i++) {
            x.minutes(300);
        }
        x.minutes(98);
        ShoeCorner y = new ShoeCorner();
        y.boy(0, 0, 5, 1);
        for (int i = 0; i < 33; i++) {
            y.minutes(300);
        }
        y.minutes(98);
        Edge.dues("9998", new int[] {x.count(1), y.count(1)}, 9998, 9998);
        Edge.due("one is left of 300", x.minutes(300), y.minutes(1));
        Edge.dues("9999", new int[] {x.count(1), y.count(1)}, 9999, 9999);
        Edge.due("z is as behind one", x.count(8), y.count(8));
        Edge.due("purse is as behind one", x.told(0, 4), y.told(0, 4));
        Edge.of(11, "9999 at most");
        x.rule(1, 0);
        x.rule(2, 0);
        x.set(0, 3, 20);
        x.seed(MinutesTest.oneMan(0, 0, 9));
        int z = x.count(8);
        int lost = x.street(2);
        int busy = x.told(0, 5);
        Edge.dues("none is left", new int[] {x.minutes(1), x.minutes(300), x.count(1), x.count(8), x.street(2), x.told(0, 5)},
            0, 0, 9999, z, lost, busy);
        Edge.of(11, "how many men were served in them. BAD.");
        Edge.dues("refused still", new int[] {x.minutes(0), x.minutes(301)}, BAD, BAD);
    }

    private static void busy() {
        Edge.of(11, "That BOY is BUSY as many minutes as it TAKES, DONE 1 more;");
        ShoeCorner x = oneBoy(0, 0, 5, 2);
        int man = MinutesTest.oneMan(0, 0, 9);
        int nobody = seed(50, 0);
        Edge.dues("served", new int[] {minute(x, man), x.told(0, 5), x.told(0, 6)}, 1, 2, 1);
        Edge.of(11, "(1) BUSY of each that is above 0 is 1 less.");
        Edge.dues("one less", new int[] {minute(x, nobody), x.told(0, 5)}, 0, 1);
        Edge.dues("0 ahead of the men of that minute", new int[] {minute(x, man), x.told(0, 5)}, 1, 2);
        minute(x, nobody);
        minute(x, nobody);
        Edge.due("0", x.told(0, 5), 0);
        minute(x, nobody);
        Edge.due("0 still", x.told(0, 5), 0);
        Edge.of(11, "That BOY is BUSY as many minutes as it TAKES, DONE 1 more;");
        ShoeCorner two = oneBoy(0, 0, 5, 1);
        two.boy(0, 0, 5, 4);
        two.seed(MinutesTest.seedFor(new int[] {100, 3, 10, 10, 9, 10, 10, 9}, new int[] {-1, 2, -1, -1, 8, -1, -1, 8}));
        Edge.dues("two men of one minute", new int[] {two.minutes(1), two.told(0, 5), two.told(1, 5), two.told(0, 6),
            two.told(1, 6)}, 2, 1, 3, 1, 1);
        two.set(1, 3, 20);
        two.turns(1, 2);
        Edge.due("it stays, though the rubs are otherwise now", two.told(1, 5), 3);
    }

    private static void rain() {
        Edge.of(11, "(2) A draw; if its rest by 100 is below RAIN, WET is turned over (wet becomes dry, dry wet).");
        int[][] due = {{0, 0, 0}, {0, 1, 1}, {1, 1, 0}, {19, 20, 1}, {20, 20, 0}, {99, 99, 0}, {98, 99, 1}, {99, 100, 1},
            {0, 100, 1}};
        for (int[] d : due) {
            for (int wet = 0; wet < 2; wet++) {
                ShoeCorner x = new ShoeCorner();
                x.rule(1, d[1]);
                x.rule(2, wet);
                minute(x, seed(d[0], 0));
                Edge.due("rest " + d[0] + ", RAIN " + d[1] + ", WET " + wet, x.count(4), wet ^ d[2]);
            }
        }
        Edge.of(11, "(3) How many men come: a draw's rest by 3; none, if it is WET;");
        for (int men = 0; men < 3; men++) {
            ShoeCorner x = new ShoeCorner();
            minute(x, seed(50, men));
            Edge.due(men + " men", x.street(2), men);
            ShoeCorner wet = new ShoeCorner();
            wet.rule(2, 1);
            int seed = seed(50, men);
            minute(wet, seed);
            Edge.dues("none, but that draw", new int[] {wet.street(2), wet.count(8)}, 0, drawn(seed, 2));
            ShoeCorner becomes = new ShoeCorner();
            minute(becomes, seed(0, men));
            Edge.dues("none as it becomes wet", new int[] {becomes.count(4), becomes.street(2)}, 1, 0);
        }
    }

    private static void menBehindRain() {
        Edge.of(11, "2 more, if it was WET in the minute before and is not now.");
        for (int men = 0; men < 3; men++) {
            ShoeCorner x = new ShoeCorner();
            minute(x, seed(0, 2));
            Edge.due("wet", x.count(4), 1);
            int seed = seed(0, men);
            minute(x, seed);
            Edge.dues("dry again", new int[] {x.count(4), x.street(2), x.count(8)}, 0, 2 + men, drawn(seed, 2 + 3 * (2 + men)));
            minute(x, seed(50, men));
            Edge.due("no more in the next one", x.street(2), 2 + 2 * men);
        }
        ShoeCorner told = new ShoeCorner();
        told.rule(2, 1);
        minute(told, seed(0, 1));
        Edge.due("wet by rule, then dry", told.street(2), 3);
        ShoeCorner always = new ShoeCorner();
        always.rule(1, 100);
        minute(always, seed(99, 2));
        minute(always, seed(99, 0));
        minute(always, seed(99, 2));
        minute(always, seed(99, 0));
        Edge.dues("each second minute", new int[] {always.count(4), always.street(2)}, 0, 4);
    }

    private static void whereDirtHaste() {
        Edge.of(11, "three draws: where he is, the rest by 10; his dirt d, the rest by 10; his haste h, 1 and the rest by 9.");
        for (int where : new int[] {0, 9}) {
            ShoeCorner x = oneBoy(0, 0, 5, 1);
            x.boy(0, 9, 5, 1);
            minute(x, MinutesTest.oneMan(where, 0, 9));
            Edge.due("he is at " + where, x.street(4), where == 0 ? 1 : 2);
        }
        for (int dirt : new int[] {0, 1, 9}) {
            ShoeCorner x = oneBoy(0, 0, 5, 1);
            Due.text(x, "shine (d=" + dirt + ")*30");
            minute(x, MinutesTest.oneMan(0, dirt, 9));
            Edge.due("his dirt is " + dirt, x.told(0, 4), 5);
        }
        for (int haste = 1; haste <= 9; haste++) {
            ShoeCorner x = oneBoy(0, 0, 5, haste == 1 ? 1 : 2 * haste - 2);
            Edge.due("takes", x.told(0, 7), haste);
            Edge.due("haste " + haste, minute(x, MinutesTest.oneMan(0, 0, haste)), 1);
            if (haste > 1) {
                ShoeCorner y = oneBoy(0, 0, 5, 2 * haste - 2);
                Edge.due("haste " + (haste - 1), minute(y, MinutesTest.oneMan(0, 0, haste - 1)), 0);
                Edge.dues("lost", new int[] {y.street(2), y.told(0, 5), y.told(0, 6), y.told(0, 4)}, 1, 0, 0, 0);
            }
        }
    }

    private static void whoIsGoneTo() {
        Edge.of(11, "to whom what it ASKS and by how much PLACE and where he is differ, together, are least (of several the least)");
        // Of each pair, {kind, place, price}, and where he is: who is gone to.
        int[][] due = {{0, 0, 10, 0, 0, 10, 0, 0}, {0, 0, 11, 0, 0, 10, 0, 1}, {0, 9, 10, 0, 0, 18, 0, 1},
            {0, 9, 10, 0, 0, 19, 0, 0}, {0, 0, 10, 0, 9, 18, 9, 1}, {0, 0, 10, 0, 9, 19, 9, 0}, {2, 5, 10, 0, 5, 13, 5, 0},
            {2, 5, 10, 0, 5, 12, 5, 1}, {4, 5, 1, 0, 5, 8, 5, 0}, {4, 5, 1, 0, 5, 7, 5, 1}, {0, 5, 1, 5, 5, 3, 5, 0},
            {0, 5, 2, 5, 5, 3, 5, 1}, {0, 4, 10, 0, 6, 10, 5, 0}, {0, 6, 10, 0, 4, 10, 5, 0}};
        for (int[] d : due) {
            ShoeCorner x = oneBoy(d[0], d[1], d[2], 1);
            x.boy(d[3], d[4], d[5], 1);
            Edge.due("goesTo(" + d[6] + ", 9)", x.goesTo(d[6], 9), d[7]);
            minute(x, MinutesTest.oneMan(d[6], 0, 9));
            Edge.due("busy", x.street(4), 1 << d[7]);
        }
        Edge.of(11, "He goes to the BOY that is not BUSY and TAKES (for its RUBS) h minutes at most");
        ShoeCorner x = oneBoy(0, 0, 1, 4);
        x.boy(0, 9, 99, 2);
        Edge.dues("by haste 1, 2, 3", new int[] {x.goesTo(0, 1), x.goesTo(0, 2), x.goesTo(0, 3)}, NONE, 1, 0);
        minute(x, MinutesTest.oneMan(0, 0, 3));
        Edge.due("the first is busy", x.goesTo(0, 3), 1);
        minute(x, MinutesTest.oneMan(0, 0, 3));
        Edge.due("both are busy", x.goesTo(0, 9), NONE);
        Edge.dues("busy", new int[] {x.told(0, 5), x.told(1, 5)}, 2, 2);
    }

    private static void lost() {
        Edge.of(11, "if there is none, he is LOST.");
        ShoeCorner none = new ShoeCorner();
        Edge.dues("no boys", new int[] {minute(none, seed(50, 2)), none.street(2)}, 0, 2);
        ShoeCorner x = oneBoy(0, 0, 5, 20);
        Edge.dues("too slow", new int[] {minute(x, MinutesTest.oneMan(0, 0, 9)), x.street(2), x.street(3)}, 0, 1, 0);
        x.set(0, 3, 16);
        Edge.dues("fast enough", new int[] {minute(x, MinutesTest.oneMan(0, 0, 9)), x.street(2), x.street(3)}, 1, 1, 1);
        Edge.dues("busy", new int[] {minute(x, MinutesTest.oneMan(0, 0, 9)), x.street(2), x.street(3)}, 0, 2, 1);
        ShoeCorner one = oneBoy(0, 0, 5, 1);
        one.seed(MinutesTest.seedFor(new int[] {100, 3, 10, 10, 9, 10, 10, 9}, new int[] {-1, 2, -1, -1, -1, -1, -1, -1}));
        Edge.dues("one of two", new int[] {one.minutes(1), one.street(2), one.street(3)}, 1, 1, 1);
    }

    private static void paid() {
        Edge.of(11, "he pays what it ASKS, and a coin more if its SHINE by its RUBS on d is 90 or more, none at all if it is below 30;");
        int[][] due = {{0, 0}, {29, 0}, {30, 20}, {31, 20}, {89, 20}, {90, 21}, {91, 21}, {999, 21}};
        for (int[] d : due) {
            ShoeCorner x = oneBoy(0, 0, 20, 1);
            Due.text(x, "shine " + d[0]);
            minute(x, MinutesTest.oneMan(0, 0, 9));
            Edge.dues("shine " + d[0], new int[] {x.told(0, 4), x.told(0, 5), x.told(0, 6), x.street(2)}, d[1], 1, 1, 0);
        }
        // Kind, what the text gives, what he pays at price 20.
        int[][] kinds = {{1, 94, 20}, {1, 95, 21}, {1, 34, 0}, {1, 35, 20}, {2, 79, 23}, {2, 80, 24}, {2, 19, 0}, {2, 20, 23},
            {3, 94, 20}, {3, 95, 21}, {4, 79, 46}, {4, 80, 47}, {4, 19, 0}, {4, 20, 46}, {5, 89, 18}, {5, 90, 19}, {5, 29, 0}};
        for (int[] k : kinds) {
            ShoeCorner x = oneBoy(k[0], 0, 20, 1);
            Due.text(x, "shine " + k[1]);
            minute(x, MinutesTest.oneMan(0, 5, 9));
            Edge.due("kind " + k[0] + ", " + k[1], x.told(0, 4), k[2]);
        }
        ShoeCorner x = oneBoy(0, 0, 20, 6);
        minute(x, MinutesTest.oneMan(0, 0, 9));
        Edge.due("92 by 6 rubs on dirt 0", x.told(0, 4), 21);
        ShoeCorner y = oneBoy(0, 0, 20, 6);
        minute(y, MinutesTest.oneMan(0, 1, 9));
        Edge.due("89 by 6 rubs on dirt 1", y.told(0, 4), 20);
        ShoeCorner mirror = oneBoy(4, 0, 20, 12);
        Due.text(mirror, "shine 49");
        minute(mirror, MinutesTest.oneMan(0, 1, 9));
        Edge.due("12 rubs are not too thick", mirror.told(0, 4), 46);
    }

    private static void shared() {
        Edge.of(11, "of what he pays SHARE hundredths (cut) go to the OWNER, the rest into its PURSE.");
        // Price, share, OWNER's, PURSE, by a shine of 30 (no coin more).
        int[][] due = {{1, 0, 0, 1}, {1, 99, 0, 1}, {2, 49, 0, 2}, {2, 50, 1, 1}, {99, 1, 0, 99}, {99, 2, 1, 98},
            {99, 99, 98, 1}, {50, 1, 0, 50}, {50, 2, 1, 49}, {33, 3, 0, 33}, {34, 3, 1, 33}};
        for (int[] d : due) {
            ShoeCorner x = oneBoy(0, 0, d[0], 1);
            Due.text(x, "shine 30");
            x.rule(0, d[1]);
            minute(x, MinutesTest.oneMan(0, 0, 9));
            Edge.dues("price " + d[0] + ", SHARE " + d[1], new int[] {x.street(1), x.told(0, 4)}, d[2], d[3]);
        }
        ShoeCorner coin = oneBoy(0, 0, 99, 1);
        Due.text(coin, "shine 90");
        coin.rule(0, 1);
        minute(coin, MinutesTest.oneMan(0, 0, 9));
        Edge.dues("of the coin more too", new int[] {coin.street(1), coin.told(0, 4)}, 1, 99);
        ShoeCorner none = oneBoy(0, 0, 99, 1);
        Due.text(none, "shine 29");
        none.rule(0, 99);
        minute(none, MinutesTest.oneMan(0, 0, 9));
        Edge.dues("of nothing", new int[] {none.street(1), none.told(0, 4)}, 0, 0);
        ShoeCorner twice = oneBoy(0, 0, 1, 1);
        Due.text(twice, "shine 30");
        twice.rule(0, 50);
        minute(twice, MinutesTest.oneMan(0, 0, 9));
        minute(twice, MinutesTest.oneMan(0, 0, 9));
        Edge.dues("cut of each by itself", new int[] {twice.street(1), twice.told(0, 4)}, 0, 2);
    }

    private static void draws() {
        Edge.of(11, "A draw: z becomes z * 1103515245 + 12345 (an int); it gives z >>> 8.");
        for (int seed : new int[] {MIN, MAX, 0, -1, 1, -12345, 1 << 30}) {
            ShoeCorner x = new ShoeCorner();
            x.rule(1, 0);
            minute(x, seed);
            int men = (drawn(seed, 2) >>> 8) % 3;
            Edge.dues("by " + seed, new int[] {x.street(2), x.count(8)}, men, drawn(seed, 2 + 3 * men));
        }
    }

    private static void street() {
        Edge.of(12, "What was 0 PURSES of all, together, 1 OWNER's PURSE, 2 LOST, 3 DONE of all, 4 BOYS that are BUSY, as a set. BAD.");
        ShoeCorner none = new ShoeCorner();
        none.minutes(30);
        Edge.dues("no boys", new int[] {none.street(0), none.street(1), none.street(3), none.street(4)}, 0, 0, 0, 0);
        Edge.range("street(what)", 0, 4, (x, v) -> x.street(v));
        for (int what = 0; what < 5; what++) {
            int asked = what;
            Edge.changesNothing("street(" + what + ")", x -> x.street(asked));
        }
        ShoeCorner all = new ShoeCorner();
        States.fullest(all);
        int purses = 0;
        int done = 0;
        int busy = 0;
        for (int boy = 0; boy < 8; boy++) {
            purses += all.told(boy, 4);
            done += all.told(boy, 6);
            busy |= all.told(boy, 5) > 0 ? 1 << boy : 0;
        }
        Edge.dues("of all", new int[] {all.street(0), all.street(3), all.street(4)}, purses, done, busy);
        Edge.of(12, "Sets of BOYS are told by bits.");
        ShoeCorner x = new ShoeCorner();
        x.rule(1, 0);
        for (int boy = 0; boy < 8; boy++) {
            x.boy(0, boy, boy == 0 || boy == 7 ? 1 : 90, 16);
        }
        minute(x, MinutesTest.oneMan(0, 0, 9));
        Edge.due("the first", x.street(4), 1);
        minute(x, MinutesTest.oneMan(7, 0, 9));
        Edge.due("the first, the last", x.street(4), 129);
        for (int boy = 1; boy < 7; boy++) {
            minute(x, MinutesTest.oneMan(boy, 0, 9));
        }
        Edge.due("all", x.street(4), 255);
    }

    private static void goesTo() {
        Edge.of(13, "Which BOY a man goes to now, at a place (0 .. 9), with haste h (1 .. 9). BAD;");
        Edge.outside("goesTo(place, 1)", 0, 9, (x, v) -> x.goesTo(v, 1));
        Edge.outside("goesTo(0, h)", 1, 9, (x, v) -> x.goesTo(0, v));
        ShoeCorner x = oneBoy(1, 4, 99, 1);
        Edge.dues("edges", new int[] {x.goesTo(0, 1), x.goesTo(9, 1), x.goesTo(0, 9), x.goesTo(9, 9)}, 0, 0, 0, 0);
        for (int place = 0; place < 10; place++) {
            int at = place;
            Edge.changesNothing("goesTo(" + at + ", 9)", y -> y.goesTo(at, 9));
        }
        Edge.of(13, "NONE: to none.");
        Edge.refused("no boys", NONE, y -> y.goesTo(0, 1), States.NEW);
        Edge.due("bad stands ahead of it", new ShoeCorner().goesTo(10, 1), BAD);
        x.set(0, 3, 4);
        Edge.dues("takes 2", new int[] {x.goesTo(4, 1), x.goesTo(4, 2)}, NONE, 0);
        minute(x, MinutesTest.oneMan(4, 0, 9));
        Edge.due("busy", x.goesTo(4, 9), NONE);
        minute(x, seed(50, 0));
        Edge.dues("busy for one minute more", new int[] {x.told(0, 5), x.goesTo(4, 9)}, 1, NONE);
        minute(x, seed(50, 0));
        Edge.due("not busy", x.goesTo(4, 9), 0);
        ShoeCorner wet = oneBoy(0, 0, 1, 1);
        wet.rule(2, 1);
        Edge.due("though it is wet", wet.goesTo(0, 1), 0);
    }
}
