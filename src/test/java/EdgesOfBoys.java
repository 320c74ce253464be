/** Edges of promises 1 to 9: a new object, boy, told, shine, as, turns, set, deal, seed. */
final class EdgesOfBoys {
    private static final int BAD = ShoeCorner.BAD, FULL = ShoeCorner.FULL, NONE = ShoeCorner.NONE,
        KIND = ShoeCorner.KIND, NOTHING = ShoeCorner.NOTHING, NO = ShoeCorner.NO;
    private static final int MIN = Integer.MIN_VALUE, MAX = Integer.MAX_VALUE;

    private EdgesOfBoys() {
    }

    static void test() {
        newObject();
        objectsApart();
        boy();
        boyFull();
        told();
        takes();
        asksAndWorth();
        shine();
        shineHeld();
        shineOfKinds();
        as();
        turns();
        set();
        deal();
        seed();
    }

    private static int[] ofEachKind(int price, int rubs, int what) {
        ShoeCorner x = BoysTest.oneOfEachKind(price, rubs);
        int[] facts = new int[6];
        for (int kind = 0; kind < 6; kind++) {
            facts[kind] = x.told(kind, what);
        }
        return facts;
    }

    private static int[] shines(ShoeCorner x, int r, int d) {
        int[] shines = new int[6];
        for (int kind = 0; kind < 6; kind++) {
            shines[kind] = x.shine(kind, r, d);
        }
        return shines;
    }

    private static void newObject() {
        ShoeCorner x = new ShoeCorner();
        Edge.of(1, "As told; no BOYS.");
        Edge.due("count(0)", x.count(0), 0);
        Edge.due("told(0, 0)", x.told(0, 0), BAD);
        Edge.due("goesTo(0, 9)", x.goesTo(0, 9), NONE);
        Edge.of(1, "hundredths of what is paid that go to the OWNER of the street; 0 at first)");
        Edge.due("count(2)", x.count(2), 0);
        Edge.of(1, "OWNER's PURSE (0)");
        Edge.due("street(1)", x.street(1), 0);
        Edge.of(1, "RAIN 0 .. 100 (20 at first)");
        Edge.due("count(3)", x.count(3), 20);
        Edge.of(1, "WET or not (not)");
        Edge.due("count(4)", x.count(4), 0);
        Edge.of(1, "LOST (men who went away; 0)");
        Edge.due("street(2)", x.street(2), 0);
        Edge.of(1, "THE MINUTE is 0 at first");
        Edge.due("count(1)", x.count(1), 0);
        Edge.of(1, "z is told (1 at first).");
        Edge.due("count(8)", x.count(8), 1);
        Edge.of(1, "with 0 to 24 places, or MISSING (at first).");
        Edge.dues("reads", new int[] {x.reads(0), x.reads(1), x.reads(2), x.reads(3)}, NOTHING, NOTHING, NOTHING, NOTHING);
        Edge.of(1, "SLOTS 0 .. 4 each hold nothing (at first)");
        for (int slot = 0; slot < 5; slot++) {
            Edge.due("lay(" + slot + ", 0, 0)", x.lay(slot, 0, 0), 0);
        }
        Edge.of(1, "As told");
        Edge.dues("texts, numbers, bytes", new int[] {x.count(5), x.count(6), x.count(7)}, 0, 0, 0);
        Edge.dues("why", new int[] {x.why(0), x.why(1), x.why(2)}, NONE, NONE, NONE);
        Edge.due("back()", x.back(), NO);
        Edge.due("purses", x.street(0), 0);
    }

    private static void objectsApart() {
        Edge.of(1, "As told; no BOYS.");
        Edge.same("an object beside another one", x -> States.fullest(new ShoeCorner()), x -> { });
        Edge.same("an object beside another one", x -> {
            States.some(x);
            States.fullest(new ShoeCorner());
        }, States::some);
    }

    private static void boy() {
        Edge.of(2, "One more BOY: its number.");
        ShoeCorner x = new ShoeCorner();
        Edge.dues("boy", new int[] {x.boy(0, 0, 1, 1), x.boy(5, 9, 99, 20)}, 0, 1);
        int[][] facts = {{0, 0, 1, 1}, {5, 9, 99, 20}};
        for (int boy = 0; boy < 2; boy++) {
            for (int what = 0; what < 4; what++) {
                Edge.due("told(" + boy + ", " + what + ")", x.told(boy, what), facts[boy][what]);
            }
        }
        x.minutes(50);
        Edge.of(2, "PURSE (0 at first), BUSY (minutes; 0 at first), DONE (how many men; 0)");
        Edge.due("boy", x.boy(4, 5, 50, 10), 2);
        Edge.dues("told(2, 4 .. 6)", new int[] {x.told(2, 4), x.told(2, 5), x.told(2, 6)}, 0, 0, 0);
        Edge.of(2, "PLACE 0 .. 9 (along the street)");
        oneNumber("boy(0, place, 1, 1)", 1, 0, 9);
        Edge.of(2, "PRICE 1 .. 99");
        oneNumber("boy(0, 0, price, 1)", 2, 1, 99);
        Edge.of(2, "RUBS 1 .. 20 (how many for one man)");
        oneNumber("boy(0, 0, 1, rubs)", 3, 1, 20);
        Edge.of(2, "and of KINDS: 0 BOY; 1 QUICK, 2 GRAND, 5 TRICKSTER, under BOY; 3 TWO-HANDED, under QUICK; 4 MIRROR");
        oneNumber("boy(kind, 0, 1, 1)", 0, 0, 5);
    }

    private static int boyWith(ShoeCorner x, int what, int v) {
        return x.boy(what == 0 ? v : 0, what == 1 ? v : 0, what == 2 ? v : 1, what == 3 ? v : 1);
    }

    private static void oneNumber(String call, int what, int low, int high) {
        for (int v = low; v <= high; v++) {
            ShoeCorner x = new ShoeCorner();
            Edge.due(call + " with " + v, boyWith(x, what, v), 0);
            Edge.due("told(0, " + what + ")", x.told(0, what), v);
        }
        // In a street with eight boys BAD stands ahead of FULL.
        Edge.outside(call, low, high, (x, v) -> boyWith(x, what, v));
    }

    private static void boyFull() {
        Edge.of(2, "BOYS, 8 at most, numbered from 0");
        ShoeCorner x = new ShoeCorner();
        for (int i = 0; i < 8; i++) {
            Edge.due("boy", x.boy(i % 6, i, i + 1, i + 1), i);
        }
        Edge.due("the ninth", x.boy(0, 0, 1, 1), FULL);
        Edge.due("count(0)", x.count(0), 8);
        Edge.due("the eighth is told", x.told(7, 1), 7);
        Edge.due("the ninth is not", x.told(8, 1), BAD);
        Edge.of(2, "BAD; FULL.");
        Edge.refused("boy(0, 0, 1, 1) when there are eight", FULL, y -> y.boy(0, 0, 1, 1), States.FULLEST);
        Edge.refused("boy(6, 10, 0, 0)", BAD, y -> y.boy(6, 10, 0, 0));
    }

    private static void told() {
        Edge.of(3, "Of a BOY: what 0 KIND, 1 PLACE, 2 PRICE, 3 RUBS, 4 PURSE, 5 BUSY, 6 DONE, 7 TAKES (for its RUBS), 8 ASKS");
        ShoeCorner x = new ShoeCorner();
        x.boy(2, 7, 30, 9);
        x.seed(MinutesTest.oneMan(7, 0, 7));
        x.minutes(1);
        int[] told = new int[10];
        for (int what = 0; what < 10; what++) {
            told[what] = x.told(0, what);
        }
        Edge.dues("told", told, 2, 7, 30, 9, 34, 7, 1, 7, 33, 69);
        Edge.of(3, "9 WORTH. BAD.");
        Edge.range("told(0, what)", 0, 9, (y, v) -> y.told(0, v));
        Edge.outside("told(boy, 0)", 0, 7, (y, v) -> y.told(v, 0));
        Edge.refused("told(5, 0) of five", BAD, y -> y.told(5, 0), States.SOME);
        Edge.refused("told(0, 0) of none", BAD, y -> y.told(0, 0), States.NEW);
        Edge.changesNothing("told(4, 7)", y -> y.told(4, 7));
    }

    private static void takes() {
        Edge.of(3, "TAKES (minutes, for r rubs): BOY: 1 and r / 2. QUICK: 1 and r / 4. TWO-HANDED: 1 and r / 6.");
        Edge.dues("1 rub", ofEachKind(1, 1, 7), 1, 1, 3, 1, 3, 1);
        Edge.dues("2 rubs", ofEachKind(1, 2, 7), 2, 1, 4, 1, 4, 2);
        Edge.dues("3 rubs", ofEachKind(1, 3, 7), 2, 1, 4, 1, 4, 2);
        Edge.dues("4 rubs", ofEachKind(1, 4, 7), 3, 2, 5, 1, 5, 3);
        Edge.dues("5 rubs", ofEachKind(1, 5, 7), 3, 2, 5, 1, 5, 3);
        Edge.dues("6 rubs", ofEachKind(1, 6, 7), 4, 2, 6, 2, 6, 4);
        Edge.dues("11 rubs", ofEachKind(1, 11, 7), 6, 3, 8, 2, 8, 6);
        Edge.dues("12 rubs", ofEachKind(1, 12, 7), 7, 4, 9, 3, 9, 7);
        Edge.of(3, "GRAND: as BOY, and 2. (MIRROR as GRAND, TRICKSTER as BOY.)");
        Edge.dues("19 rubs", ofEachKind(1, 19, 7), 10, 5, 12, 4, 12, 10);
        Edge.dues("20 rubs", ofEachKind(1, 20, 7), 11, 6, 13, 4, 13, 11);
    }

    private static void asksAndWorth() {
        Edge.of(3, "ASKS (coins): BOY: PRICE. GRAND: as BOY, and 3. MIRROR: twice as GRAND. TRICKSTER: as BOY, less 2 (1 at least).");
        Edge.dues("price 1", ofEachKind(1, 1, 8), 1, 1, 4, 1, 8, 1);
        Edge.dues("price 2", ofEachKind(2, 1, 8), 2, 2, 5, 2, 10, 1);
        Edge.dues("price 3", ofEachKind(3, 1, 8), 3, 3, 6, 3, 12, 1);
        Edge.dues("price 4", ofEachKind(4, 1, 8), 4, 4, 7, 4, 14, 2);
        Edge.of(3, "(QUICK, TWO-HANDED as BOY.)");
        Edge.dues("price 99", ofEachKind(99, 1, 8), 99, 99, 102, 99, 204, 97);
        Edge.of(3, "WORTH: BOY: PRICE. QUICK: as BOY, and 8. TWO-HANDED: twice as QUICK. GRAND: 99 less PRICE. MIRROR: as GRAND, less 5. TRICKSTER: 2.");
        Edge.dues("price 1", ofEachKind(1, 1, 9), 1, 9, 98, 18, 93, 2);
        Edge.dues("price 94", ofEachKind(94, 1, 9), 94, 102, 5, 204, 0, 2);
        Edge.dues("price 95, below 0", ofEachKind(95, 1, 9), 95, 103, 4, 206, -1, 2);
        Edge.dues("price 99, below 0", ofEachKind(99, 1, 9), 99, 107, 0, 214, -5, 2);
        Edge.of(3, "(A KIND that is not named does as the one above it.)");
        Edge.dues("as above it", new int[] {ofEachKind(7, 1, 8)[3], ofEachKind(7, 1, 8)[1]}, 7, 7);
    }

    private static void shine() {
        Edge.of(4, "SHINE of a BOY by r (0 .. 40) rubs on dirt d. BAD.");
        Edge.range("shine(0, r, 0)", 0, 40, (x, v) -> x.shine(0, v, 0));
        Edge.outside("shine(boy, 1, 1)", 0, 7, (x, v) -> x.shine(v, 1, 1));
        Edge.refused("shine(5, 1, 1) of five", BAD, x -> x.shine(5, 1, 1), States.SOME);
        Edge.refused("shine(0, 1, 1) of none", BAD, x -> x.shine(0, 1, 1), States.NEW);
        Edge.changesNothing("shine(4, 40, 9)", x -> x.shine(4, 40, 9));
        Edge.of(4, "SHINE by r rubs on dirt d (0 .. 9)");
        Edge.range("shine(0, 1, d)", 0, 9, (x, v) -> x.shine(0, 1, v));
        Edge.of(4, "(without a TEXT: 100 less 60 / (1 and r), less 3 d, 0 at least)");
        ShoeCorner x = new ShoeCorner();
        x.boy(0, 0, 1, 1);
        Edge.dues("on dirt 0", new int[] {x.shine(0, 0, 0), x.shine(0, 1, 0), x.shine(0, 2, 0), x.shine(0, 3, 0),
            x.shine(0, 6, 0), x.shine(0, 7, 0), x.shine(0, 29, 0), x.shine(0, 30, 0), x.shine(0, 40, 0)},
            40, 70, 80, 85, 92, 93, 98, 99, 99);
        Edge.dues("on dirt 9", new int[] {x.shine(0, 0, 9), x.shine(0, 40, 9), x.shine(0, 0, 1)}, 13, 72, 37);
        x.turns(0, 3);
        Edge.of(4, "TWO-HANDED: as QUICK, with twice r.");
        Edge.dues("by 14, 15, 29, 30, 40", new int[] {x.shine(0, 14, 0), x.shine(0, 15, 0), x.shine(0, 29, 0),
            x.shine(0, 30, 0), x.shine(0, 40, 0)}, 93, 94, 94, 95, 95);
    }

    private static void shineHeld() {
        Edge.of(4, "BOY: what shine gives, held within 0 .. 999");
        int[][] gives = {{-1, 0}, {0, 0}, {1, 1}, {998, 998}, {999, 999}, {1000, 999}, {9999, 999}, {-9999, 0}};
        for (int[] g : gives) {
            ShoeCorner x = BoysTest.oneOfEachKind(1, 1);
            Due.text(x, g[0] < 0 ? "shine 0-" + -g[0] : "shine " + g[0]);
            Edge.due("a boy's by what gives " + g[0], x.shine(0, 1, 1), g[1]);
            Edge.due("a trickster's by what gives " + g[0], x.shine(5, 1, 1), g[1]);
        }
        ShoeCorner x = BoysTest.oneOfEachKind(1, 1);
        Due.text(x, "shine 9999*9999*9999");
        Edge.due("what wraps above", x.shine(0, 1, 1), 9999 * 9999 * 9999 > 0 ? 999 : 0);
        Due.text(x, "shine 0-9999*9999*9999");
        Edge.due("what wraps below", x.shine(0, 1, 1), 9999 * 9999 * 9999 > 0 ? 0 : 999);
        Edge.of(4, "QUICK: as BOY, less 5 (0 at least).");
        int[] low = {4, 5, 6};
        int[] due = {0, 0, 1};
        for (int i = 0; i < 3; i++) {
            Due.text(x, "shine " + low[i]);
            Edge.dues("by what gives " + low[i], new int[] {x.shine(1, 1, 1), x.shine(3, 1, 1)}, due[i], due[i]);
        }
        Due.text(x, "shine 0-3");
        Edge.of(4, "GRAND: as BOY, and 10.");
        Edge.dues("by what is held at 0", shines(x, 1, 1), 0, 0, 10, 0, 10, 0);
        Due.text(x, "shine 1000");
        Edge.dues("by what is held at 999", shines(x, 1, 1), 999, 994, 1009, 994, 1009, 999);
    }

    private static void shineOfKinds() {
        ShoeCorner x = BoysTest.oneOfEachKind(1, 1);
        Edge.of(4, "MIRROR: as GRAND, but half of it (cut), if r is above 12 (too thick).");
        Due.text(x, "shine 1");
        Edge.dues("11 of 12 rubs, half of it of 13", new int[] {x.shine(4, 12, 0), x.shine(4, 13, 0), x.shine(4, 40, 0),
            x.shine(2, 13, 0)}, 11, 5, 5, 11);
        Due.text(x, "shine 2");
        Edge.due("12, half of it", x.shine(4, 13, 0), 6);
        Due.text(x, "shine 999");
        Edge.dues("above", new int[] {x.shine(4, 12, 0), x.shine(4, 13, 0)}, 1009, 504);
        Edge.of(4, "TRICKSTER: as BOY, with d 0.");
        Due.text(x, "shine d*100+r");
        Edge.dues("on dirt 9", shines(x, 7, 9), 907, 902, 917, 909, 917, 7);
        Edge.of(4, "TWO-HANDED: as QUICK, with twice r.");
        Due.text(x, "shine r");
        Edge.dues("by 0, 2, 3, 40", new int[] {x.shine(3, 0, 0), x.shine(3, 2, 0), x.shine(3, 3, 0), x.shine(3, 40, 0)},
            0, 0, 1, 75);
        Edge.of(4, "of shine r rubs, d dirt, p PLACE");
        Due.text(x, "shine p");
        x.set(0, 1, 9);
        x.set(1, 1, 9);
        Edge.dues("by place", shines(x, 1, 1), 9, 4, 13, 0, 13, 3);
    }

    private static void as() {
        Edge.of(5, "A BOY as one of a KIND: PRICE.");
        ShoeCorner x = BoysTest.oneOfEachKind(99, 1);
        Edge.dues("as themselves", new int[] {x.as(0, 0), x.as(1, 1), x.as(2, 2), x.as(3, 3), x.as(4, 4), x.as(5, 5)},
            99, 99, 99, 99, 99, 99);
        Edge.of(5, "BAD: boy, kind;");
        Edge.outside("as(boy, 0)", 0, 7, (y, v) -> y.as(v, 0));
        Edge.refused("as(5, 0) of five", BAD, y -> y.as(5, 0), States.SOME);
        Edge.outside("as(0, kind)", 0, 5, (y, v) -> y.as(0, v));
        Edge.refused("as(0, 0) of none", BAD, y -> y.as(0, 0), States.NEW);
        Edge.of(5, "KIND: it is not of that KIND, nor of one under it.");
        int[] under = {0b1, 0b11, 0b101, 0b1011, 0b10101, 0b100001};
        for (int boy = 0; boy < 6; boy++) {
            for (int kind = 0; kind < 6; kind++) {
                Edge.due("as(" + boy + ", " + kind + ")", x.as(boy, kind), (under[boy] >> kind & 1) == 1 ? 99 : KIND);
            }
        }
        Edge.refused("a mirror as one that is two-handed", KIND, y -> y.as(3, 3), States.SOME);
        Edge.changesNothing("as(3, 2)", y -> y.as(3, 2));
    }

    private static void turns() {
        Edge.of(6, "A BOY is of another KIND from now on: what it was.");
        ShoeCorner x = new ShoeCorner();
        x.boy(5, 0, 9, 1);
        int[] was = {5, 0, 1, 2, 3, 4, 5};
        for (int kind = 0; kind < 6; kind++) {
            Edge.due("turns(0, " + kind + ")", x.turns(0, kind), was[kind]);
            Edge.due("told(0, 0)", x.told(0, 0), kind);
        }
        Edge.due("the same again", x.turns(0, 5), 5);
        Edge.same("turned and turned again", y -> {
            States.some(y);
            y.turns(4, y.turns(4, 0));
        }, States::some);
        Edge.of(6, "what it was. BAD.");
        Edge.range("turns(0, kind)", 0, 5, (y, v) -> y.turns(0, v));
        Edge.outside("turns(boy, 0)", 0, 7, (y, v) -> y.turns(v, 0));
        Edge.refused("turns(5, 0) of five", BAD, y -> y.turns(5, 0), States.SOME);
        Edge.refused("turns(0, 0) of none", BAD, y -> y.turns(0, 0), States.NEW);
    }

    private static void set() {
        Edge.of(7, "PLACE, PRICE, RUBS (what 1 .. 3) of a BOY becomes v: what it was.");
        ShoeCorner x = new ShoeCorner();
        x.boy(0, 5, 50, 10);
        Edge.dues("place", new int[] {x.set(0, 1, 0), x.set(0, 1, 9), x.set(0, 1, 9), x.told(0, 1)}, 5, 0, 9, 9);
        Edge.dues("price", new int[] {x.set(0, 2, 1), x.set(0, 2, 99), x.set(0, 2, 99), x.told(0, 2)}, 50, 1, 99, 99);
        Edge.dues("rubs", new int[] {x.set(0, 3, 1), x.set(0, 3, 20), x.set(0, 3, 20), x.told(0, 3)}, 10, 1, 20, 20);
        Edge.same("set and set again", y -> {
            States.some(y);
            for (int what = 1; what <= 3; what++) {
                y.set(2, what, y.set(2, what, 7));
            }
        }, States::some);
        Edge.of(7, "what it was. BAD.");
        Edge.range("set(0, what, 5)", 1, 3, (y, v) -> y.set(0, v, 5));
        Edge.range("set(0, 1, v)", 0, 9, (y, v) -> y.set(0, 1, v));
        Edge.range("set(0, 2, v)", 1, 99, (y, v) -> y.set(0, 2, v));
        Edge.range("set(0, 3, v)", 1, 20, (y, v) -> y.set(0, 3, v));
        Edge.outside("set(boy, 1, 1)", 0, 7, (y, v) -> y.set(v, 1, 1));
        Edge.refused("set(5, 1, 1) of five", BAD, y -> y.set(5, 1, 1), States.SOME);
        Edge.refused("set(0, 1, 1) of none", BAD, y -> y.set(0, 1, 1), States.NEW);
        for (int what = 4; what < 10; what++) {
            int fact = what;
            Edge.refused("set(0, " + what + ", 1)", BAD, y -> y.set(0, fact, 1));
        }
    }

    private static int drawn(int z, int times) {
        int one = z;
        for (int i = 0; i < times; i++) {
            one = one * 1103515245 + 12345;
        }
        return one;
    }

    private static void deal() {
        Edge.of(8, "BOYS are drawn, n (1 .. 8) of them");
        for (int n = 1; n <= 8; n++) {
            ShoeCorner x = new ShoeCorner();
            Edge.due("deal(" + n + ")", x.deal(n), n);
            Edge.due("count(0)", x.count(0), n);
            Edge.due("z", x.count(8), drawn(1, 4 * n));
        }
        Edge.outside("deal(n)", 1, 8, (x, v) -> x.deal(v));
        Edge.of(8, "as many as there is room for (no draws for others): how many came.");
        ShoeCorner x = new ShoeCorner();
        x.deal(7);
        Edge.dues("room for one", new int[] {x.deal(8), x.count(0), x.count(8)}, 1, 8, drawn(1, 32));
        Edge.dues("no room", new int[] {x.deal(1), x.count(0), x.count(8)}, 0, 8, drawn(1, 32));
        for (int n : new int[] {1, 8}) {
            Edge.same("deal without room", y -> {
                States.fullest(y);
                y.deal(n);
            }, States::fullest);
        }
        Edge.of(8, "how many came. BAD.");
        Edge.refused("deal(9) without room", BAD, y -> y.deal(9), States.FULLEST);
        Edge.of(8, "BOYS that are drawn: KIND the rest of a draw by 6, PLACE that of one more by 10, PRICE 1 and that of one more by 20, RUBS 1 and that of one more by 12.");
        for (int[] rests : new int[][] {{0, 0, 0, 0}, {5, 9, 19, 11}}) {
            ShoeCorner y = new ShoeCorner();
            y.seed(MinutesTest.seedFor(new int[] {6, 10, 20, 12}, rests));
            y.deal(1);
            Edge.dues("drawn", new int[] {y.told(0, 0), y.told(0, 1), y.told(0, 2), y.told(0, 3), y.told(0, 4),
                y.told(0, 5), y.told(0, 6)}, rests[0], rests[1], 1 + rests[2], 1 + rests[3], 0, 0, 0);
        }
    }

    private static void seed() {
        Edge.of(9, "z becomes v: what it was.");
        ShoeCorner x = new ShoeCorner();
        int[] seeds = {MIN, MAX, 0, -1, BAD, FULL, NONE, 1};
        int was = 1;
        for (int seed : seeds) {
            Edge.due("seed(" + seed + ")", x.seed(seed), was);
            Edge.due("count(8)", x.count(8), seed);
            was = seed;
        }
        Edge.of(9, "A draw: z becomes z * 1103515245 + 12345 (an int); it gives z >>> 8.");
        for (int seed : seeds) {
            ShoeCorner y = new ShoeCorner();
            y.seed(seed);
            y.deal(1);
            int[] drawn = {drawn(seed, 1) >>> 8, drawn(seed, 2) >>> 8, drawn(seed, 3) >>> 8, drawn(seed, 4) >>> 8};
            Edge.dues("drawn by " + seed, new int[] {y.told(0, 0), y.told(0, 1), y.told(0, 2), y.told(0, 3), y.count(8)},
                drawn[0] % 6, drawn[1] % 10, 1 + drawn[2] % 20, 1 + drawn[3] % 12, drawn(seed, 4));
        }
    }
}
