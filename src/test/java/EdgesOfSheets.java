import java.util.List;

/** Edges of promises 27 to 35: sheet, mark, pour, reads, copy, lay, ask, item, rest. */
final class EdgesOfSheets {
    private static final int BAD = ShoeCorner.BAD, NO = ShoeCorner.NO, NONE = ShoeCorner.NONE,
        NOTHING = ShoeCorner.NOTHING, KIND = ShoeCorner.KIND, INDEX = ShoeCorner.INDEX, SIZE = ShoeCorner.SIZE;
    private static final int MIN = Integer.MIN_VALUE, MAX = Integer.MAX_VALUE;

    private EdgesOfSheets() {
    }

    static void test() {
        sheet();
        sheetRefused();
        mark();
        markRefused();
        pour();
        reads();
        copy();
        copyPlaces();
        copyRefused();
        lay();
        layForGood();
        ask();
        item();
        rest();
    }

    /** A place of a sheet, by slot 4. */
    private static int place(ShoeCorner x, int sheet, int place) {
        x.lay(4, 2, sheet);
        return x.item(4, place);
    }

    private static int[] places(ShoeCorner x, int sheet, int many) {
        int[] places = new int[many];
        for (int i = 0; i < many; i++) {
            places[i] = place(x, sheet, i);
        }
        return places;
    }

    private static ShoeCorner row(int sort, int... places) {
        ShoeCorner x = new ShoeCorner();
        x.sheet(0, sort, places.length);
        for (int i = 0; i < places.length; i++) {
            x.mark(0, i, places[i]);
        }
        return x;
    }

    private static void sheet() {
        Edge.of(27, "A SHEET becomes a row of n places of a sort, all 0 (sort -1: MISSING, n any): n (0).");
        for (int sort = 0; sort < 2; sort++) {
            for (int sheet = 0; sheet < 4; sheet++) {
                for (int n : new int[] {0, 1, 23, 24}) {
                    ShoeCorner x = new ShoeCorner();
                    Edge.due("sheet(" + sheet + ", " + sort + ", " + n + ")", x.sheet(sheet, sort, n), n);
                    x.lay(0, 2, sheet);
                    for (int place = 0; place < n; place++) {
                        Edge.due("item(0, " + place + ")", x.item(0, place), 0);
                    }
                    Edge.dues("no more of them", new int[] {x.item(0, n), x.mark(sheet, n, 1)}, INDEX, INDEX);
                }
            }
        }
        ShoeCorner x = row(1, 5, NONE, 7);
        Edge.due("anew, with more places", x.sheet(0, 1, 5), 5);
        Edge.dues("all 0", places(x, 0, 5), 0, 0, 0, 0, 0);
        x.mark(0, 1, 9);
        Edge.due("anew, with fewer", x.sheet(0, 1, 1), 1);
        Edge.due("anew, with more", x.sheet(0, 0, 2), 2);
        Edge.dues("all 0, of the other sort", new int[] {place(x, 0, 0), place(x, 0, 1), x.mark(0, 0, NONE)}, 0, 0, KIND);
        for (int n : new int[] {0, 5, -1, 24, 25, MIN, MAX}) {
            x.sheet(0, 1, 3);
            Edge.dues("MISSING, n " + n, new int[] {x.sheet(0, -1, n), x.mark(0, 0, 1), x.sheet(0, -1, n)}, 0, NOTHING, 0);
        }
        Edge.same("a sheet that comes and goes", y -> {
            States.some(y);
            y.sheet(3, 1, 24);
            y.sheet(3, -1, 7);
        }, States::some);
        Edge.of(27, "SHEETS 0 .. 3 are rows of shorts (sort 0) or floats (1; whole numbers)");
        ShoeCorner each = new ShoeCorner();
        for (int sheet = 0; sheet < 4; sheet++) {
            each.sheet(sheet, sheet % 2, 2);
            each.mark(sheet, 1, 10 + sheet);
        }
        Edge.dues("each is one of its own", new int[] {place(each, 0, 1), place(each, 1, 1), place(each, 2, 1), place(each, 3, 1)},
            10, 11, 12, 13);
        Edge.dues("shorts, floats", new int[] {each.mark(0, 0, NONE), each.mark(1, 0, NONE)}, KIND, 1);
    }

    private static void sheetRefused() {
        Edge.of(27, "BAD: sheet, sort, n above 24;");
        Edge.range("sheet(sheet, 0, 1)", 0, 3, (x, v) -> x.sheet(v, 0, 1));
        Edge.range("sheet(sheet, -1, 1)", 0, 3, (x, v) -> x.sheet(v, -1, 1));
        Edge.range("sheet(0, sort, 1)", -1, 1, (x, v) -> x.sheet(0, v, 1));
        for (int sort = 0; sort < 2; sort++) {
            for (int n : new int[] {25, 26, MAX}) {
                int s = sort;
                Edge.refused("sheet(0, " + sort + ", " + n + ")", BAD, x -> x.sheet(0, s, n));
            }
        }
        Edge.of(27, "SIZE: a number of places is below 0;");
        for (int n : new int[] {-1, -25, MIN}) {
            Edge.refused("sheet(0, 0, " + n + ")", SIZE, x -> x.sheet(0, 0, n));
            Edge.refused("sheet(3, 1, " + n + ")", SIZE, x -> x.sheet(3, 1, n));
        }
        Edge.of(27, "n above 24; SIZE.");
        Edge.refused("sheet(4, 0, -1) is bad first", BAD, x -> x.sheet(4, 0, -1));
        Edge.refused("sheet(-1, 1, -1) is bad first", BAD, x -> x.sheet(-1, 1, -1));
        Edge.refused("sheet(0, 2, -1) is bad first", BAD, x -> x.sheet(0, 2, -1));
        Edge.refused("sheet(0, -2, -1) is bad first", BAD, x -> x.sheet(0, -2, -1));
    }

    private static void mark() {
        Edge.of(28, "A place of a SHEET becomes v (of shorts its lowest 16 bits;");
        ShoeCorner x = row(0, 0, 0);
        int[][] shorts = {{32767, 32767}, {32768, -32768}, {-32768, -32768}, {-32769, 32767}, {65535, -1}, {65536, 0},
            {65537, 1}, {MAX, -1}, {MIN, 0}, {99999, -31073}, {-1, -1}, {BAD, (short) BAD}};
        for (int[] s : shorts) {
            Edge.dues("mark(0, 1, " + s[0] + ")", new int[] {x.mark(0, 1, s[0]), place(x, 0, 1), place(x, 0, 0)}, 1, s[1], 0);
        }
        Edge.of(28, "of floats v, -99999 .. 99999;");
        ShoeCorner y = row(1, 0, 0);
        for (int v : new int[] {99999, -99999, 32768, 65536, 0, -1}) {
            Edge.dues("mark(0, 1, " + v + ")", new int[] {y.mark(0, 1, v), place(y, 0, 1), place(y, 0, 0)}, 1, v, 0);
        }
        Edge.of(28, "NONE: NO NUMBER): 1.");
        Edge.dues("mark(0, 0, NONE)", new int[] {y.mark(0, 0, NONE), place(y, 0, 0), y.mark(0, 0, NONE)}, 1, KIND, 1);
        Edge.of(28, "A place of floats may be NO NUMBER.");
        Edge.dues("and a number again", new int[] {y.mark(0, 0, 0), place(y, 0, 0)}, 1, 0);
        Edge.of(28, "A place of a SHEET becomes v");
        ShoeCorner z = row(1, new int[24]);
        Edge.dues("the first, the last", new int[] {z.mark(0, 0, 1), z.mark(0, 23, 2), place(z, 0, 0), place(z, 0, 23),
            place(z, 0, 1), place(z, 0, 22)}, 1, 1, 1, 2, 0, 0);
    }

    private static void markRefused() {
        Edge.of(28, "1. BAD: sheet;");
        Edge.outside("mark(sheet, 0, 1)", 0, 3, (x, v) -> x.mark(v, 0, 1));
        Edge.refused("all is wrong", BAD, x -> x.mark(4, 99, NONE));
        Edge.of(28, "BAD: sheet; NOTHING;");
        Edge.refused("mark(3, 0, 1)", NOTHING, x -> x.mark(3, 0, 1), States.SOME);
        Edge.refused("mark(3, 0, 1)", NOTHING, x -> x.mark(3, 0, 1), States.NEW);
        Edge.refused("ahead of all behind it", NOTHING, x -> x.mark(3, -1, NONE), States.SOME);
        Edge.of(28, "NOTHING; INDEX; KIND");
        for (int place : new int[] {-1, 5, 24, MIN, MAX}) {
            Edge.refused("shorts, place " + place, INDEX, x -> x.mark(0, place, 1), States.SOME);
            Edge.refused("shorts, NONE, place " + place, INDEX, x -> x.mark(0, place, NONE), States.SOME);
        }
        for (int place : new int[] {-1, 24, 25, MIN, MAX}) {
            Edge.refused("floats, place " + place, INDEX, x -> x.mark(2, place, 1), States.WITH_BOYS);
            Edge.refused("floats, bad, place " + place, INDEX, x -> x.mark(2, place, 100000), States.WITH_BOYS);
        }
        Edge.refused("no places", INDEX, x -> x.mark(0, 0, 1), List.of(x -> x.sheet(0, 1, 0)));
        Edge.of(28, "KIND: NONE in a row of shorts;");
        Edge.refused("mark(0, 0, NONE)", KIND, x -> x.mark(0, 0, NONE), States.SOME);
        Edge.refused("mark(3, 23, NONE)", KIND, x -> x.mark(3, 23, NONE), States.FULLEST);
        Edge.of(28, "BAD: v of floats.");
        for (int v : new int[] {100000, -100000, MIN, MAX, BAD, NONE - 1, NONE + 1}) {
            Edge.refused("mark(1, 1, " + v + ")", BAD, x -> x.mark(1, 1, v), States.WITH_BOYS);
        }
    }

    private static int[] prices(ShoeCorner x) {
        int[] prices = new int[x.count(0)];
        for (int i = 0; i < prices.length; i++) {
            prices[i] = x.told(i, 2);
        }
        return prices;
    }

    private static ShoeCorner withBoys(ShoeCorner x, int many) {
        for (int i = 0; i < many; i++) {
            x.boy(0, 0, 10 + i, 1);
        }
        return x;
    }

    private static void pour() {
        Edge.of(29, "PRICES of BOYS, by numbers, become the places of a SHEET from 0 on (each held within 1 .. 99;");
        ShoeCorner x = withBoys(row(1, 0, 1, 2, 98, 99, 100, -99999, 99999), 8);
        Edge.due("pour(0)", x.pour(0), 8);
        Edge.dues("prices", prices(x), 1, 1, 2, 98, 99, 99, 1, 99);
        Edge.due("again", x.pour(0), 0);
        ShoeCorner shorts = withBoys(row(0, -32768, 32767, 50), 3);
        Edge.due("shorts", shorts.pour(0), 3);
        Edge.dues("prices", prices(shorts), 1, 99, 50);
        Edge.of(29, "NO NUMBER, and beyond the SHEET: they stay): how many are otherwise then.");
        ShoeCorner y = withBoys(row(1, 10, NONE, 50), 5);
        Edge.due("one is otherwise, one is as it was", y.pour(0), 1);
        Edge.dues("prices", prices(y), 10, 11, 50, 13, 14);
        ShoeCorner held = withBoys(row(1, 100, 0), 2);
        held.set(0, 2, 99);
        held.set(1, 2, 1);
        Edge.due("held to what it was", held.pour(0), 0);
        ShoeCorner none = withBoys(row(1), 2);
        Edge.dues("no places", new int[] {none.pour(0), none.told(0, 2), none.told(1, 2)}, 0, 10, 11);
        ShoeCorner more = withBoys(row(0, 1, 2, 3, 4), 2);
        Edge.due("more places than boys", more.pour(0), 2);
        Edge.dues("prices", prices(more), 1, 2);
        Edge.dues("the sheet stays", places(more, 0, 4), 1, 2, 3, 4);
        Edge.due("no boys", row(0, 1, 2).pour(0), 0);
        Edge.of(29, "otherwise then. BAD; NOTHING.");
        Edge.outside("pour(sheet)", 0, 3, (z, v) -> z.pour(v));
        Edge.refused("pour(3)", NOTHING, z -> z.pour(3), States.SOME);
        Edge.refused("pour(0)", NOTHING, z -> z.pour(0), States.NEW);
    }

    private static void reads() {
        Edge.of(30, "The first place (of numbers alone) at which a SHEET is not PURSE of that BOY");
        ShoeCorner x = withBoys(row(1, 0, 0, 0), 3);
        Edge.due("all are", x.reads(0), NONE);
        for (int place = 2; place >= 0; place--) {
            x.mark(0, place, 1);
            Edge.due("the first", x.reads(0), place);
        }
        x.mark(0, 0, NONE);
        Edge.due("of numbers alone", x.reads(0), 1);
        ShoeCorner earned = withBoys(row(1, 10, 0), 2);
        earned.rule(1, 0);
        Edge.due("not yet", earned.reads(0), 0);
        earned.seed(MinutesTest.oneMan(0, 0, 9));
        earned.minutes(1);
        Edge.due("he earned 10", earned.reads(0), NONE);
        earned.sheet(1, 0, 1);
        earned.mark(1, 0, 65536 + 10);
        Edge.due("of shorts", earned.reads(1), NONE);
        Edge.of(30, "(of places that are no BOY all numbers are not).");
        ShoeCorner more = withBoys(row(1, 0, 0, 0), 2);
        Edge.due("0 is not the purse of no boy", more.reads(0), 2);
        more.mark(0, 2, NONE);
        Edge.due("no number", more.reads(0), NONE);
        Edge.due("no boys", row(0, 0, 0).reads(0), 0);
        Edge.due("no boys, numbers alone", row(1, NONE, NONE, 0).reads(0), 2);
        ShoeCorner full = withBoys(row(0, new int[24]), 8);
        Edge.due("behind the eighth", full.reads(0), 8);
        Edge.of(30, "NONE: there is none.");
        Edge.due("no places", row(0).reads(0), NONE);
        Edge.due("no numbers", row(1, NONE).reads(0), NONE);
        Edge.of(30, "BAD; NOTHING; NONE");
        Edge.outside("reads(sheet)", 0, 3, (z, v) -> z.reads(v));
        Edge.refused("reads(3)", NOTHING, z -> z.reads(3), States.SOME);
        Edge.refused("reads(0)", NOTHING, z -> z.reads(0), States.NEW);
        Edge.changesNothing("reads(1)", z -> z.reads(1));
    }

    private static void copy() {
        Edge.of(31, "So many places of a SHEET come to another one (or the same), as they were: many.");
        ShoeCorner x = row(1, 1, NONE, 3, 4, 5);
        x.sheet(1, 1, 4);
        Edge.due("copy(0, 1, 1, 0, 4)", x.copy(0, 1, 1, 0, 4), 4);
        Edge.dues("another one", places(x, 1, 4), KIND, 3, 4, 5);
        Edge.dues("the first stays", places(x, 0, 5), 1, KIND, 3, 4, 5);
        x.mark(0, 2, 99);
        Edge.due("of its own", place(x, 1, 1), 3);
        Edge.due("forth within one", x.copy(0, 0, 0, 1, 4), 4);
        Edge.dues("as they were", places(x, 0, 5), 1, 1, KIND, 99, 4);
        Edge.due("back within one", x.copy(0, 1, 0, 0, 4), 4);
        Edge.dues("as they were", places(x, 0, 5), 1, KIND, 99, 4, 4);
        Edge.due("to where they are", x.copy(0, 0, 0, 0, 5), 5);
        Edge.dues("as they were", places(x, 0, 5), 1, KIND, 99, 4, 4);
        Edge.of(31, "(From a SHEET, its place, to a SHEET, its place.)");
        ShoeCorner y = row(0, 1, 2, 3);
        y.sheet(3, 0, 3);
        Edge.due("copy(0, 0, 3, 2, 1)", y.copy(0, 0, 3, 2, 1), 1);
        Edge.dues("from 0 to 2", places(y, 3, 3), 0, 0, 1);
        ShoeCorner all = row(0, new int[24]);
        all.mark(0, 0, 8);
        all.mark(0, 23, 9);
        all.sheet(1, 0, 24);
        Edge.dues("24 of 24", new int[] {all.copy(0, 0, 1, 0, 24), place(all, 1, 0), place(all, 1, 23)}, 24, 8, 9);
    }

    private static void copyPlaces() {
        Edge.of(31, "KIND: they are not of one sort; INDEX.");
        // Of 5 places to 3 places: from, at, many; 1 if there are such places.
        int[][] due = {{0, 0, 3, 1}, {0, 0, 4, 0}, {2, 0, 3, 1}, {3, 0, 3, 0}, {0, 1, 2, 1}, {0, 1, 3, 0}, {4, 2, 1, 1},
            {5, 2, 1, 0}, {4, 3, 1, 0}, {5, 3, 0, 1}, {6, 3, 0, 0}, {5, 4, 0, 0}, {0, 0, 0, 1}, {-1, 0, 1, 0}, {0, -1, 1, 0},
            {-1, 0, 0, 0}, {0, -1, 0, 0}, {0, 0, -1, 0}, {1, 1, -1, 0}, {MAX, 0, 1, 0}, {0, MAX, 1, 0}, {0, 0, MAX, 0},
            {1, 1, MAX, 0}, {MAX, MAX, MAX, 0}, {MIN, MIN, MIN, 0}, {0, 0, MIN, 0}, {MAX, 0, MIN, 0}, {5, 3, MAX, 0}};
        for (int[] d : due) {
            ShoeCorner x = row(1, 1, 2, 3, 4, 5);
            x.sheet(1, 1, 3);
            Edge.due("copy(0, " + d[0] + ", 1, " + d[1] + ", " + d[2] + ")", x.copy(0, d[0], 1, d[1], d[2]), d[3] == 1 ? d[2] : INDEX);
            int[] places = new int[3];
            for (int i = 0; d[3] == 1 && i < d[2]; i++) {
                places[d[1] + i] = 1 + d[0] + i;
            }
            Edge.dues("places", places(x, 1, 3), places);
        }
        Edge.of(31, "INDEX: there is no such place;");
        Edge.refused("one too many from", INDEX, x -> x.copy(1, 1, 2, 0, 6), States.SOME);
        Edge.refused("one too many to", INDEX, x -> x.copy(2, 0, 1, 1, 6), States.SOME);
        Edge.refused("one too many within one", INDEX, x -> x.copy(2, 0, 2, 1, 24), States.WITH_BOYS);
        ShoeCorner none = row(0);
        Edge.dues("no places", new int[] {none.copy(0, 0, 0, 0, 0), none.copy(0, 0, 0, 0, 1), none.copy(0, 1, 0, 0, 0)}, 0, INDEX, INDEX);
    }

    private static void copyRefused() {
        Edge.of(31, "as they were: many. BAD;");
        Edge.outside("copy(from, 0, 2, 0, 0)", 0, 3, (x, v) -> x.copy(v, 0, 2, 0, 0));
        Edge.outside("copy(2, 0, to, 0, 0)", 0, 3, (x, v) -> x.copy(2, 0, v, 0, 0));
        Edge.refused("ahead of one that is missing", BAD, x -> x.copy(3, -1, 4, -1, -1), States.SOME);
        Edge.refused("ahead of one that is missing", BAD, x -> x.copy(-1, -1, 3, -1, -1), States.SOME);
        Edge.of(31, "BAD; NOTHING; KIND");
        Edge.refused("from one that is missing", NOTHING, x -> x.copy(3, 0, 0, 0, 0), States.SOME);
        Edge.refused("to one that is missing", NOTHING, x -> x.copy(0, 0, 3, 0, 0), States.SOME);
        Edge.refused("both are", NOTHING, x -> x.copy(3, 0, 3, 0, 0), States.SOME);
        Edge.refused("ahead of INDEX", NOTHING, x -> x.copy(0, -1, 3, 99, MAX), States.SOME);
        Edge.refused("a new one", NOTHING, x -> x.copy(0, 0, 1, 0, 0), States.NEW);
        Edge.of(31, "KIND: they are not of one sort;");
        Edge.refused("shorts to floats", KIND, x -> x.copy(0, 0, 1, 0, 1), States.SOME);
        Edge.refused("floats to shorts", KIND, x -> x.copy(1, 0, 0, 0, 1), States.SOME);
        Edge.refused("though none come", KIND, x -> x.copy(1, 0, 0, 0, 0), States.SOME);
        Edge.refused("ahead of INDEX", KIND, x -> x.copy(1, -1, 0, 99, MAX), States.SOME);
    }

    private static void lay() {
        Edge.of(32, "A SLOT holds: thing 0 nothing, 1 BOY k, 2 SHEET k, 3 the number k: what it held (0 .. 3).");
        ShoeCorner x = withBoys(row(0, 7), 1);
        int[] things = {0, 0, 1, 1, 2, 2, 3, 3, 0, 2, 0, 3, 1, 3, 2, 1, 0};
        for (int slot = 0; slot < 5; slot++) {
            int held = 0;
            for (int thing : things) {
                Edge.due("lay(" + slot + ", " + thing + ", 0)", x.lay(slot, thing, 0), held);
                held = thing;
                Edge.dues("it holds that alone", new int[] {x.ask(slot, 0), x.item(slot, 0), x.rest(slot, 5)},
                    thing == 0 ? NOTHING : thing == 1 ? 10 : KIND, thing == 0 ? NOTHING : thing == 2 ? 7 : KIND,
                    thing == 0 ? NOTHING : thing == 3 ? 0 : KIND);
            }
        }
        for (int k : new int[] {MIN, MAX, -1, 8, 99}) {
            Edge.dues("any k of nothing, of a number", new int[] {x.lay(0, 3, k), x.rest(0, MAX), x.lay(0, 0, k), x.rest(0, 1)},
                0, k % MAX, 3, NOTHING);
        }
        Edge.of(32, "what it held (0 .. 3). BAD: slot, thing, k;");
        for (int thing = 0; thing < 4; thing++) {
            int one = thing;
            Edge.range("lay(slot, " + thing + ", 1)", 0, 4, (y, v) -> y.lay(v, one, 1));
        }
        Edge.range("lay(0, thing, 0)", 0, 3, (y, v) -> y.lay(0, v, 0));
        Edge.outside("lay(1, 1, k)", 0, 7, (y, v) -> y.lay(1, 1, v));
        Edge.refused("lay(1, 1, 5) of five", BAD, y -> y.lay(1, 1, 5), States.SOME);
        Edge.refused("lay(0, 1, 0) of none", BAD, y -> y.lay(0, 1, 0), States.NEW);
        Edge.outside("lay(1, 2, k)", 0, 3, (y, v) -> y.lay(1, 2, v));
        Edge.of(32, "NOTHING: that SHEET is MISSING.");
        Edge.refused("lay(2, 2, 3)", NOTHING, y -> y.lay(2, 2, 3), States.SOME);
        Edge.refused("lay(0, 2, 0)", NOTHING, y -> y.lay(0, 2, 0), States.NEW);
        Edge.refused("bad slot first", BAD, y -> y.lay(5, 2, 3), States.SOME);
        Edge.refused("bad thing first", BAD, y -> y.lay(0, 4, 3), States.SOME);
    }

    private static void layForGood() {
        Edge.of(32, "a BOY (as it is then, for good)");
        ShoeCorner x = new ShoeCorner();
        x.keep();
        x.boy(3, 0, 10, 1);
        x.lay(0, 1, 0);
        x.set(0, 2, 99);
        x.turns(0, 5);
        x.lay(1, 1, 0);
        Edge.dues("as it was then, as it was later", new int[] {x.ask(0, 3), x.ask(0, 5), x.ask(1, 5), x.ask(1, 3)}, 36, KIND, 2, KIND);
        x.back();
        Edge.dues("though the boy is gone", new int[] {x.count(0), x.ask(0, 3), x.ask(1, 5)}, 0, 36, 2);
        x.boy(0, 0, 50, 1);
        Edge.due("though another has its number", x.ask(0, 1), 36);
        Edge.of(32, "a SHEET (a row of its own, as it was then), or a number.");
        ShoeCorner y = row(1, 1, NONE);
        y.lay(0, 2, 0);
        y.mark(0, 0, 9);
        y.mark(0, 1, 9);
        Edge.dues("as it was then", new int[] {y.item(0, 0), y.item(0, 1)}, 1, KIND);
        y.sheet(0, 0, 0);
        Edge.dues("though it is made anew", new int[] {y.item(0, 0), y.item(0, 1), y.item(0, 2)}, 1, KIND, INDEX);
        y.sheet(0, -1, 0);
        Edge.dues("though it is missing", new int[] {y.item(0, 0), y.item(0, 1)}, 1, KIND);
        y.sheet(1, 0, 3);
        y.lay(1, 2, 1);
        Edge.dues("each slot by itself", new int[] {y.item(0, 0), y.item(1, 0), y.item(1, 2), y.item(0, 2)}, 1, 0, 0, INDEX);
    }

    private static void ask() {
        Edge.of(33, "WORTH of the BOY in a SLOT, taken for one of a KIND (0 .. 5).");
        ShoeCorner x = BoysTest.oneOfEachKind(99, 1);
        int[] worth = {99, 107, 0, 214, -5, 2};
        int[] under = {0b1, 0b11, 0b101, 0b1011, 0b10101, 0b100001};
        for (int boy = 0; boy < 6; boy++) {
            x.lay(4, 1, boy);
            for (int kind = 0; kind < 6; kind++) {
                Edge.due("ask of " + boy + " as " + kind, x.ask(4, kind), (under[boy] >> kind & 1) == 1 ? worth[boy] : KIND);
            }
        }
        Edge.outside("ask(1, kind)", 0, 5, (y, v) -> y.ask(1, v));
        Edge.outside("ask(slot, 0)", 0, 4, (y, v) -> y.ask(v, 0));
        Edge.of(33, "taken for one of a KIND (0 .. 5). BAD; NOTHING;");
        Edge.refused("ask(0, 0)", NOTHING, y -> y.ask(0, 0), States.SOME);
        Edge.refused("ask(4, 5)", NOTHING, y -> y.ask(4, 5), States.NEW);
        Edge.refused("bad stands first", BAD, y -> y.ask(0, 6), States.SOME);
        Edge.of(33, "KIND: it is no BOY, or not of that KIND, nor of one under it.");
        Edge.refused("a sheet", KIND, y -> y.ask(2, 0), States.WITH_BOYS);
        Edge.refused("a number", KIND, y -> y.ask(3, 0), States.SOME);
        Edge.refused("a mirror as two-handed", KIND, y -> y.ask(1, 3), States.SOME);
        Edge.refused("a sheet, but a bad kind", BAD, y -> y.ask(2, 6), States.SOME);
        Edge.changesNothing("ask(1, 0)", y -> y.ask(1, 0));
    }

    private static void item() {
        Edge.of(34, "A place of the SHEET in a SLOT.");
        ShoeCorner x = row(1, -99999, NONE, 99999);
        x.lay(0, 2, 0);
        Edge.dues("places", new int[] {x.item(0, 0), x.item(0, 1), x.item(0, 2)}, -99999, KIND, 99999);
        ShoeCorner shorts = row(0, -32768, 32767);
        shorts.lay(0, 2, 0);
        Edge.dues("shorts", new int[] {shorts.item(0, 0), shorts.item(0, 1)}, -32768, 32767);
        Edge.changesNothing("item(2, 1)", y -> y.item(2, 1));
        Edge.of(34, "BAD: slot; NOTHING;");
        Edge.outside("item(slot, 0)", 0, 4, (y, v) -> y.item(v, 0));
        Edge.refused("item(0, 0)", NOTHING, y -> y.item(0, 0), States.SOME);
        Edge.refused("ahead of INDEX", NOTHING, y -> y.item(0, -1), States.NEW);
        Edge.of(34, "KIND: it is no SHEET;");
        Edge.refused("a boy", KIND, y -> y.item(1, 0), States.WITH_BOYS);
        Edge.refused("a number", KIND, y -> y.item(3, 0), States.SOME);
        Edge.refused("ahead of INDEX", KIND, y -> y.item(1, -1), States.WITH_BOYS);
        Edge.of(34, "KIND: it is no SHEET; INDEX;");
        for (int place : new int[] {-1, 6, 24, MIN, MAX}) {
            Edge.refused("item(2, " + place + ")", INDEX, y -> y.item(2, place), States.SOME);
        }
        Edge.refused("item(2, 24)", INDEX, y -> y.item(2, 24), States.FULLEST);
        ShoeCorner none = row(0);
        none.lay(0, 2, 0);
        Edge.due("no places", none.item(0, 0), INDEX);
        Edge.of(34, "INDEX; KIND: NO NUMBER.");
        Edge.refused("item(2, 0)", KIND, y -> y.item(2, 0), States.SOME);
    }

    private static void rest() {
        Edge.of(35, "The rest of the number in a SLOT by n.");
        int[][] due = {{11, 4, 3}, {-11, 4, -3}, {11, -4, 3}, {-11, -4, -3}, {MIN, -1, 0}, {MIN, MIN, 0}, {MAX, MIN, MAX},
            {MIN, MAX, -1}, {0, 5, 0}, {3, 5, 3}, {7, 1, 0}, {-7, -1, 0}, {NONE, 10, -5}};
        for (int[] d : due) {
            ShoeCorner x = new ShoeCorner();
            x.lay(2, 3, d[0]);
            Edge.due(d[0] + " by " + d[1], x.rest(2, d[1]), d[2]);
        }
        Edge.changesNothing("rest(3, 7)", y -> y.rest(3, 7));
        Edge.of(35, "BAD: slot; NOTHING;");
        Edge.outside("rest(slot, 1)", 0, 4, (y, v) -> y.rest(v, 1));
        Edge.refused("ahead of NO", BAD, y -> y.rest(5, 0));
        Edge.refused("rest(0, 1)", NOTHING, y -> y.rest(0, 1), States.SOME);
        Edge.refused("ahead of NO", NOTHING, y -> y.rest(0, 0), States.NEW);
        Edge.of(35, "KIND: it is no number;");
        Edge.refused("a boy", KIND, y -> y.rest(1, 1), States.WITH_BOYS);
        Edge.refused("a sheet", KIND, y -> y.rest(2, 1), States.WITH_BOYS);
        Edge.refused("ahead of NO", KIND, y -> y.rest(1, 0), States.WITH_BOYS);
        Edge.of(35, "NO: n is 0.");
        Edge.refused("rest(3, 0)", NO, y -> y.rest(3, 0), States.SOME);
        Edge.refused("rest(0, 0)", NO, y -> y.rest(0, 0), States.FULLEST);
    }
}
