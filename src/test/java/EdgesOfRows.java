import java.util.List;
import java.util.function.Consumer;

/** Edges of promises 36 to 40: tell, check, keep, back, count; and of the terms that go for all. */
final class EdgesOfRows {
    private static final int BAD = ShoeCorner.BAD, NO = ShoeCorner.NO, FULL = ShoeCorner.FULL, NONE = ShoeCorner.NONE,
        NOTHING = ShoeCorner.NOTHING, KIND = ShoeCorner.KIND, INDEX = ShoeCorner.INDEX, SIZE = ShoeCorner.SIZE;
    private static final int MIN = Integer.MIN_VALUE, MAX = Integer.MAX_VALUE;

    private EdgesOfRows() {
    }

    static void test() {
        tell();
        check();
        checkWrong();
        checkGone();
        checkLastMinutes();
        checkByTheImage();
        keep();
        back();
        backKeepsNot();
        backAgain();
        count();
        terms();
    }

    private static void tell() {
        Edge.of(36, "One more number waits: how many.");
        ShoeCorner x = new ShoeCorner();
        int[] any = {MIN, MAX, 0, BAD, NONE};
        for (int i = 0; i < any.length; i++) {
            Edge.due("tell(" + any[i] + ")", x.tell(any[i]), i + 1);
        }
        Edge.of(36, "FULL: 60 wait.");
        for (int i = any.length; i < 60; i++) {
            Edge.due("tell", x.tell(i), i + 1);
        }
        Edge.dues("60 wait", new int[] {x.tell(0), x.count(6), x.tell(1), x.count(6)}, FULL, 60, FULL, 60);
        Edge.refused("tell(7)", FULL, y -> y.tell(7), States.FULLEST);
        x.check(1);
        Edge.due("behind check there is room", x.tell(5), 1);
    }

    /** The minutes told of n minutes by the image that the state has. */
    private static int[] minutesTold(Consumer<ShoeCorner> state, int n) {
        ShoeCorner x = new ShoeCorner();
        state.accept(x);
        x.back();
        int[] told = new int[2 * n];
        for (int i = 0; i < n; i++) {
            x.minutes(1);
            told[2 * i] = x.street(0);
            told[2 * i + 1] = x.street(2);
        }
        return told;
    }

    private static ShoeCorner somewhere() {
        ShoeCorner x = new ShoeCorner();
        States.someWithoutNumbers(x);
        return x;
    }

    private static void tellAll(ShoeCorner x, int[] numbers, int many) {
        for (int i = 0; i < many; i++) {
            x.tell(numbers[i]);
        }
    }

    private static void check() {
        Edge.of(37, "are THE MINUTES TOLD of n (1 .. 30;");
        int[] told = minutesTold(States::someWithoutNumbers, 30);
        for (int n : new int[] {1, 2, 29, 30}) {
            ShoeCorner x = somewhere();
            tellAll(x, told, 2 * n);
            Edge.due("check(" + n + ")", x.check(n), 0);
        }
        Edge.of(37, "THE MINUTES TOLD: of n MINUTES, one behind the other, by THE IMAGE: PURSES of all, together; LOST, behind each.");
        ShoeCorner x = somewhere();
        ShoeCorner y = somewhere();
        y.back();
        x.tell(y.behind(1, 0));
        x.tell(y.behind(1, 2));
        x.tell(y.behind(2, 0));
        x.tell(y.behind(2, 2));
        Edge.due("check(2)", x.check(2), 0);
        Edge.of(37, "BAD; NO: there is no IMAGE.");
        for (int n : new int[] {0, -1, 31, MIN, MAX}) {
            Edge.refused("check(" + n + ")", BAD, z -> z.check(n),
                List.of(z -> { }, States::someWithoutNumbers, States::fullestWithoutNumbers));
        }
        Edge.refused("check(1)", NO, z -> z.check(1), States.NEW);
        Edge.refused("check(30)", NO, z -> z.check(30), States.NEW);
        Edge.refused("check(0) is bad first", BAD, z -> z.check(0), States.NEW);
    }

    private static void checkWrong() {
        Edge.of(37, "two by two: 0; else 1 and how many stand right ahead of the first that is not (or is missing, or one too many).");
        int[] told = minutesTold(States::someWithoutNumbers, 30);
        for (int n : new int[] {1, 2, 29, 30}) {
            for (int wrong : new int[] {0, 1, 2 * n - 2, 2 * n - 1}) {
                ShoeCorner x = somewhere();
                int[] other = told.clone();
                other[wrong]--;
                tellAll(x, other, 2 * n);
                Edge.due("one is wrong behind " + wrong, x.check(n), 1 + wrong);
                ShoeCorner y = somewhere();
                tellAll(y, told, wrong);
                Edge.due("missing behind " + wrong, y.check(n), 1 + wrong);
                ShoeCorner z = somewhere();
                tellAll(z, other, wrong + 1);
                Edge.due("wrong, then missing", z.check(n), 1 + wrong);
            }
        }
        for (int n : new int[] {1, 2, 29}) {
            ShoeCorner x = somewhere();
            tellAll(x, told, 2 * n + 1);
            Edge.due("one too many behind " + 2 * n, x.check(n), 1 + 2 * n);
            ShoeCorner y = somewhere();
            tellAll(y, told, 60);
            Edge.due("more too many behind " + 2 * n, y.check(n), 1 + 2 * n);
        }
        ShoeCorner none = somewhere();
        Edge.due("none wait", none.check(30), 1);
        ShoeCorner swapped = new ShoeCorner();
        swapped.keep();
        swapped.tell(0);
        swapped.tell(MAX);
        Edge.due("a LOST that is not", swapped.check(1), 2);
    }

    private static void checkGone() {
        Edge.of(37, "The numbers that wait (none do then, whatever is answered)");
        int[] told = minutesTold(States::someWithoutNumbers, 2);
        ShoeCorner x = somewhere();
        tellAll(x, told, 4);
        Edge.dues("0", new int[] {x.check(2), x.count(6), x.check(2), x.count(6)}, 0, 0, 1, 0);
        tellAll(x, told, 4);
        Edge.dues("too many", new int[] {x.check(1), x.count(6)}, 3, 0);
        tellAll(x, told, 4);
        Edge.dues("BAD", new int[] {x.check(0), x.count(6), x.check(31), x.count(6)}, BAD, 0, BAD, 0);
        tellAll(x, told, 4);
        Edge.dues("none of the earlier ones", new int[] {x.count(6), x.check(2)}, 4, 0);
        ShoeCorner none = new ShoeCorner();
        none.tell(1);
        Edge.dues("NO", new int[] {none.check(1), none.count(6)}, NO, 0);
        for (int n : new int[] {0, 1, 30, 31}) {
            Edge.same("check(" + n + ") leaves all but the numbers", y -> {
                States.some(y);
                y.check(n);
            }, States::someWithoutNumbers);
            Edge.same("check(" + n + ") leaves all but the numbers", y -> {
                States.fullest(y);
                y.check(n);
            }, States::fullestWithoutNumbers);
        }
    }

    private static ShoeCorner late(int minute) {
        ShoeCorner x = new ShoeCorner();
        x.boy(0, 0, 5, 1);
        for (int i = 0; i < 33; i++) {
            x.minutes(300);
        }
        x.minutes(minute - 9900);
        return x;
    }

    private static void checkLastMinutes() {
        Edge.of(37, "fewer, if THE MINUTE would be above 9999)");
        for (int left = 1; left <= 3; left++) {
            ShoeCorner x = late(9999 - left);
            x.keep();
            int[] told = new int[2 * left];
            for (int i = 0; i < left; i++) {
                told[2 * i] = x.behind(i + 1, 0);
                told[2 * i + 1] = x.behind(i + 1, 2);
            }
            tellAll(x, told, 2 * left);
            Edge.due("as many as are left", x.check(left), 0);
            tellAll(x, told, 2 * left);
            Edge.due("fewer than 30", x.check(30), 0);
            tellAll(x, told, 2 * left);
            x.tell(x.behind(left + 1, 0));
            Edge.due("one too many", x.check(left + 1), 1 + 2 * left);
            tellAll(x, told, 2 * left - 1);
            Edge.due("one is missing", x.check(30), 2 * left);
        }
        ShoeCorner last = late(9999);
        last.keep();
        Edge.due("none is left", last.check(30), 0);
        last.tell(0);
        Edge.due("none is left, one too many", last.check(1), 1);
        ShoeCorner early = late(9990);
        early.keep();
        int[] told = {early.behind(1, 0), early.behind(1, 2), early.behind(2, 0), early.behind(2, 2)};
        early.minutes(300);
        tellAll(early, told, 4);
        Edge.dues("THE MINUTE of the image counts", new int[] {early.count(1), early.check(2)}, 9999, 0);
    }

    private static void checkByTheImage() {
        Edge.of(37, "one behind the other, by THE IMAGE");
        ShoeCorner x = new ShoeCorner();
        x.boy(0, 0, 10, 1);
        x.rule(1, 0);
        x.seed(MinutesTest.oneMan(0, 0, 9));
        x.keep();
        x.set(0, 2, 90);
        x.boy(0, 0, 1, 1);
        x.seed(MinutesTest.oneMan(9, 9, 1));
        x.rule(2, 1);
        x.rule(0, 99);
        Due.text(x, "shine 0");
        x.tell(10);
        x.tell(0);
        Edge.due("not what is now", x.check(1), 0);
        x.keep();
        x.tell(10);
        x.tell(0);
        Edge.due("the image that was kept last", x.check(1), 1);
        ShoeCorner text = new ShoeCorner();
        text.boy(0, 0, 10, 1);
        Due.text(text, "shine 90");
        text.seed(MinutesTest.oneMan(0, 0, 9));
        text.keep();
        Due.text(text, "shine 0");
        text.tell(11);
        text.tell(0);
        Edge.due("the texts of the image", text.check(1), 0);
    }

    private static void keep() {
        Edge.of(38, "AN IMAGE is kept: how many BOYS.");
        ShoeCorner x = new ShoeCorner();
        Edge.dues("of none", new int[] {x.keep(), x.keep(), x.back()}, 0, 0, 0);
        for (int boys = 1; boys <= 8; boys++) {
            x.boy(0, 0, boys, 1);
            Edge.due("keep()", x.keep(), boys);
        }
        x.turns(0, 5);
        Edge.dues("the last one alone", new int[] {x.back(), x.told(0, 0), x.count(0)}, 8, 0, 8);
        Edge.changesNothing("back to what was kept just now", y -> y.back() + y.keep() + y.back() - y.back() - y.keep(),
            List.of(y -> {
                States.some(y);
                y.back();
            }, y -> {
                States.fullest(y);
                y.back();
            }));
        ShoeCorner old = new ShoeCorner();
        old.boy(0, 0, 1, 1);
        old.keep();
        old.boy(0, 0, 2, 1);
        old.back();
        old.boy(0, 0, 3, 1);
        Edge.dues("kept anew with fewer, then more", new int[] {old.keep(), old.told(1, 2)}, 2, 3);
    }

    private static void back() {
        Edge.of(39, "NO: there is none.");
        Edge.refused("back()", NO, x -> x.back(), States.NEW);
        ShoeCorner x = new ShoeCorner();
        x.boy(0, 0, 1, 1);
        x.minutes(5);
        Edge.dues("though there is much to be kept", new int[] {x.back(), x.count(0), x.count(1)}, NO, 1, 5);
        Edge.of(39, "All is as THE IMAGE: how many BOYS.");
        ShoeCorner all = new ShoeCorner();
        States.some(all);
        all.keep();
        List<Integer> before = States.street(all);
        all.minutes(200);
        all.deal(8);
        all.rule(0, 1);
        all.rule(1, 2);
        all.rule(2, 1);
        all.seed(MAX);
        for (int boy = 0; boy < 8; boy++) {
            all.turns(boy, 0);
            all.set(boy, 1, 0);
            all.set(boy, 2, 99);
            all.set(boy, 3, 20);
        }
        Due.feed(all, " ");
        all.text();
        Due.text(all, "fee 1");
        Due.text(all, "shine 2");
        Due.text(all, "fine 3");
        Due.feed(all, "fine d+1");
        Edge.due("back()", all.back(), 5);
        Due.holds("promise 39, 'All is as THE IMAGE': all that can be asked", States.street(all).equals(before));
        ShoeCorner first = new ShoeCorner();
        first.keep();
        first.deal(8);
        first.minutes(30);
        Due.text(first, "fee 7");
        Edge.dues("to none at all", new int[] {first.back(), first.count(0), first.count(1), first.count(5), first.count(8),
            first.why(1), first.fee(), first.told(0, 0)}, 0, 0, 0, 0, 1, NONE, 0, BAD);
    }

    private static void backKeepsNot() {
        Edge.of(39, "AN IMAGE keeps all but SHEETS, SLOTS, numbers that wait, THE TAPE;");
        ShoeCorner x = new ShoeCorner();
        x.boy(0, 0, 10, 1);
        x.keep();
        x.sheet(0, 1, 2);
        x.mark(0, 1, 44);
        x.lay(0, 1, 0);
        x.lay(1, 2, 0);
        x.lay(2, 3, 45);
        x.tell(46);
        Due.feed(x, "fee 47");
        x.back();
        Edge.dues("they stay", new int[] {x.ask(0, 0), x.item(1, 1), x.rest(2, 100), x.count(6), x.count(7), x.text(), x.fee(),
            x.lay(4, 2, 0), x.item(4, 1)}, 10, 44, 45, 1, 6, 0, 47, 0, 44);
        ShoeCorner y = new ShoeCorner();
        y.sheet(0, 0, 3);
        y.lay(0, 3, 1);
        y.tell(1);
        Due.feed(y, "fee 1");
        y.keep();
        y.sheet(0, -1, 0);
        y.lay(0, 0, 0);
        y.check(1);
        y.trim(0);
        y.back();
        Edge.dues("they do not come again", new int[] {y.reads(0), y.rest(0, 1), y.count(6), y.count(7)}, NOTHING, NOTHING, 0, 0);
    }

    private static void backAgain() {
        Edge.of(39, "all can become as it is (again and again).");
        Edge.same("back, minutes, back", x -> {
            States.some(x);
            x.back();
            x.minutes(100);
            x.deal(3);
            x.back();
        }, x -> {
            States.some(x);
            x.back();
        });
        ShoeCorner x = new ShoeCorner();
        States.some(x);
        x.keep();
        int[] first = {x.minutes(50), x.street(0), x.street(1), x.street(2), x.count(8)};
        for (int again = 0; again < 3; again++) {
            Edge.due("back()", x.back(), 5);
            Edge.dues("the same again", new int[] {x.minutes(50), x.street(0), x.street(1), x.street(2), x.count(8)}, first);
        }
        ShoeCorner texts = new ShoeCorner();
        Due.text(texts, "fee 5");
        texts.keep();
        for (int again = 0; again < 3; again++) {
            for (int i = 1; i < 14; i++) {
                Edge.due("text", Due.text(texts, "fee " + (again + i)), i);
            }
            Edge.due("the fifteenth", Due.text(texts, "fee 9"), FULL);
            texts.back();
            Edge.dues("the first text counts", new int[] {texts.count(5), texts.why(1), texts.fee(), texts.textTold(0, 1)},
                1, 0, 5, 1);
        }
        ShoeCorner boys = new ShoeCorner();
        boys.keep();
        boys.boy(0, 0, 9, 2);
        boys.seed(MinutesTest.oneMan(0, 0, 9));
        boys.minutes(1);
        boys.back();
        boys.boy(1, 2, 3, 4);
        Edge.dues("a boy that comes anew", new int[] {boys.told(0, 0), boys.told(0, 1), boys.told(0, 2), boys.told(0, 3),
            boys.told(0, 4), boys.told(0, 5), boys.told(0, 6)}, 1, 2, 3, 4, 0, 0, 0);
    }

    private static void count() {
        Edge.of(40, "0 how many BOYS, 1 THE MINUTE, 2 SHARE, 3 RAIN, 4 whether it is WET (1, 0), 5 TEXTS, 6 numbers that wait, 7 bytes of THE TAPE, 8 z.");
        ShoeCorner full = new ShoeCorner();
        States.fullest(full);
        full.rule(2, 1);
        full.seed(MIN);
        int[] counts = new int[9];
        for (int what = 0; what < 9; what++) {
            counts[what] = full.count(what);
        }
        Edge.dues("the fullest", counts, 8, 50, 50, 10, 1, 14, 60, 96, MIN);
        full.rule(0, 99);
        full.rule(1, 100);
        full.rule(2, 0);
        Edge.dues("at the edge", new int[] {full.count(2), full.count(3), full.count(4)}, 99, 100, 0);
        Edge.of(40, "8 z. BAD.");
        Edge.range("count(what)", 0, 8, (x, v) -> x.count(v));
        for (int what = 0; what < 9; what++) {
            int asked = what;
            Edge.changesNothing("count(" + what + ")", x -> x.count(asked));
        }
    }

    /** One refusal for each answer; all others stand with their promises. */
    private static void terms() {
        Edge.of(2, "A call that is refused answers one of BAD, NO, FULL, or a FINDING, of several the one that stands first with it, and changes nothing (but the tape and the numbers that wait, where told).");
        Edge.refused("boy(9, 9, 9, 9)", BAD, x -> x.boy(9, 9, 9, 9));
        Edge.refused("rest(3, 0)", NO, x -> x.rest(3, 0), States.SOME);
        Edge.refused("tell(0)", FULL, x -> x.tell(0), States.FULLEST);
        Edge.refused("pour(3)", NOTHING, x -> x.pour(3), States.SOME);
        Edge.of(13, "NONE: there is none.");
        Edge.refused("goesTo(0, 1)", NONE, x -> x.goesTo(0, 1), States.NEW);
        Edge.of(19, "FINDINGS: NOTHING: a SHEET is MISSING, a SLOT holds nothing;");
        Edge.refused("shone(3, 0)", NOTHING, x -> x.shone(3, 0), States.SOME);
        Edge.refused("rest(0, 1)", NOTHING, x -> x.rest(0, 1), States.SOME);
        Edge.of(34, "INDEX: there is no such place;");
        Edge.refused("item(2, 6)", INDEX, x -> x.item(2, 6), States.SOME);
        Edge.of(27, "SIZE: a number of places is below 0;");
        Edge.refused("sheet(1, 1, -1)", SIZE, x -> x.sheet(1, 1, -1), States.SOME);
        Edge.of(33, "KIND: it is none (of a KIND, a number, or another thing).");
        Edge.refused("of a KIND", KIND, x -> x.as(3, 1), States.SOME);
        Edge.refused("of a KIND", KIND, x -> x.ask(1, 1), States.SOME);
        Edge.refused("a number", KIND, x -> x.item(2, 0), States.SOME);
        Edge.refused("another thing", KIND, x -> x.rest(1, 2), States.SOME);
    }
}
