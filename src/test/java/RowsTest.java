/** Promises 36 to 40: tell, check, keep, back, count. */
public final class RowsTest {
    private static final int BAD = ShoeCorner.BAD, NO = ShoeCorner.NO, FULL = ShoeCorner.FULL, NONE = ShoeCorner.NONE;

    public static void main(String[] args) {
        promise36Tell();
        promise37Check();
        promise37LastMinutes();
        promise37ByTheImage();
        promise38Keep();
        promise39Back();
        promise39BoysAnew();
        promise40Count();
        Due.end("RowsTest");
    }

    private static void promise36Tell() {
        ShoeCorner x = new ShoeCorner();
        for (int i = 1; i <= 60; i++) {
            Due.due("tell " + i, x.tell(-i), i);
        }
        Due.due("60 wait", x.tell(0), FULL);
        Due.due("60", x.count(6), 60);
    }

    private static ShoeCorner street() {
        ShoeCorner x = new ShoeCorner();
        x.seed(5);
        x.deal(4);
        x.minutes(10);
        x.rule(0, 10);
        return x;
    }

    /** Purses and lost behind each of n minutes, as the minutes themselves bring them. */
    private static int[] minutesTold(ShoeCorner x, int n) {
        int[] told = new int[2 * n];
        for (int i = 0; i < n; i++) {
            x.minutes(1);
            told[2 * i] = x.street(0);
            told[2 * i + 1] = x.street(2);
        }
        return told;
    }

    private static void tell(ShoeCorner x, int[] numbers, int many) {
        for (int i = 0; i < many; i++) {
            x.tell(numbers[i]);
        }
    }

    private static void promise37Check() {
        ShoeCorner x = street();
        x.tell(1);
        Due.due("no image", x.check(1), NO);
        Due.due("none wait", x.count(6), 0);
        x.tell(1);
        Due.due("bad stands first", x.check(0), BAD);
        Due.due("none wait", x.count(6), 0);
        x.keep();
        x.tell(1);
        Due.due("31", x.check(31), BAD);
        Due.due("none wait", x.count(6), 0);
        Due.due("-1", x.check(-1), BAD);
        int[] told = minutesTold(street(), 30);
        for (int n = 1; n <= 30; n++) {
            tell(x, told, 2 * n);
            Due.due("check " + n, x.check(n), 0);
            Due.due("none wait", x.count(6), 0);
        }
        for (int n = 1; n <= 5; n++) {
            for (int many = 0; many < 2 * n; many++) {
                tell(x, told, many);
                Due.due("missing behind " + many, x.check(n), 1 + many);
            }
            for (int wrong = 0; wrong < 2 * n; wrong++) {
                int[] other = told.clone();
                other[wrong]++;
                other[wrong + 1]++;
                tell(x, other, 2 * n);
                Due.due("wrong at " + wrong, x.check(n), 1 + wrong);
            }
            tell(x, told, 2 * n + 1);
            Due.due("one too many", x.check(n), 1 + 2 * n);
        }
        Due.due("nothing changed", x.count(1), 10);
    }

    private static void promise37LastMinutes() {
        ShoeCorner x = new ShoeCorner();
        for (int i = 0; i < 33; i++) {
            x.minutes(300);
        }
        x.minutes(97);
        x.keep();
        int[] told = minutesTold(x, 2);
        tell(x, told, 4);
        Due.due("two minutes are left", x.check(30), 0);
        tell(x, told, 4);
        x.tell(told[2]);
        Due.due("one too many", x.check(3), 5);
        x.keep();
        Due.due("none is left", x.check(1), 0);
        x.tell(0);
        Due.due("one too many", x.check(1), 1);
    }

    /** Neither later minutes nor later texts and boys count, but the image. */
    private static void promise37ByTheImage() {
        ShoeCorner x = street();
        Due.text(x, "shine 95");
        x.keep();
        int[] told = minutesTold(x, 20);
        Due.text(x, "shine 0");
        x.turns(0, 4);
        x.boy(0, 0, 1, 1);
        x.rule(0, 99);
        tell(x, told, 40);
        Due.due("check", x.check(20), 0);
    }

    private static void promise38Keep() {
        ShoeCorner x = new ShoeCorner();
        Due.due("none", x.keep(), 0);
        x.deal(3);
        Due.due("three", x.keep(), 3);
        x.deal(2);
        Due.due("the last image counts", x.back(), 3);
        x.deal(1);
        Due.due("four", x.keep(), 4);
        Due.due("four", x.back(), 4);
    }

    private static void promise39Back() {
        ShoeCorner x = new ShoeCorner();
        Due.due("no image", x.back(), NO);
        x.seed(5);
        x.deal(4);
        x.rule(0, 30);
        x.minutes(40);
        Due.text(x, "fee 7");
        x.keep();
        int[] before = facts(x);
        for (int again = 0; again < 3; again++) {
            x.minutes(9);
            x.turns(0, again);
            x.set(1, 2, 77);
            x.set(2, 1, again);
            x.set(3, 3, 9);
            x.rule(0, 1);
            x.rule(1, 99);
            x.rule(2, again % 2);
            x.deal(4);
            Due.due("text", Due.text(x, "fee 8"), 1);
            Due.due("text", Due.text(x, "shine 8"), 2);
            x.sheet(0, 0, 2);
            x.lay(0, 3, 9);
            Due.feed(x, "fine");
            x.tell(3);
            Due.due("back", x.back(), 4);
            Due.holds("all is as it was", java.util.Arrays.equals(before, facts(x)));
            Due.due("sheets stay", x.mark(0, 1, 1), 1);
            Due.due("slots stay", x.rest(0, 10), 9);
            Due.due("the tape stays", x.count(7), 4);
            Due.due("numbers stay", x.count(6), again + 1);
            Due.due("fee", x.fee(), 7);
            Due.due("no shine", x.why(0), NONE);
            x.trim(0);
        }
    }

    private static void promise39BoysAnew() {
        ShoeCorner x = new ShoeCorner();
        x.keep();
        x.boy(0, 0, 9, 2);
        x.seed(MinutesTest.oneMan(0, 0, 9));
        x.minutes(1);
        Due.due("busy", x.told(0, 5), 2);
        x.back();
        x.boy(0, 0, 9, 2);
        for (int what = 4; what < 7; what++) {
            Due.due("a boy at first " + what, x.told(0, what), 0);
        }
    }

    private static int[] facts(ShoeCorner x) {
        int[] facts = new int[64];
        int at = 0;
        for (int what : new int[] {0, 1, 2, 3, 4, 5, 8}) {
            facts[at++] = x.count(what);
        }
        for (int what = 0; what < 5; what++) {
            facts[at++] = x.street(what);
        }
        for (int key = 0; key < 3; key++) {
            facts[at++] = x.why(key);
        }
        for (int boy = 0; boy < 5; boy++) {
            for (int what = 0; what < 7; what++) {
                facts[at++] = x.told(boy, what);
            }
        }
        return facts;
    }

    private static void promise40Count() {
        ShoeCorner x = new ShoeCorner();
        x.boy(0, 0, 1, 1);
        x.boy(0, 0, 1, 1);
        x.minutes(3);
        x.rule(0, 4);
        x.rule(1, 5);
        x.rule(2, 1);
        for (int i = 0; i < 6; i++) {
            Due.text(x, "fee 1");
        }
        for (int i = 0; i < 7; i++) {
            x.tell(1);
        }
        x.feed(0, 0, 0);
        x.trim(8);
        x.seed(-9);
        int[] due = {2, 3, 4, 5, 1, 6, 7, 8, -9};
        for (int what = 0; what < due.length; what++) {
            Due.due("count " + what, x.count(what), due[what]);
        }
        Due.due("-1", x.count(-1), BAD);
        Due.due("9", x.count(9), BAD);
    }
}
