/** Promises 22 to 26: feed, trim, text, textTold, why. */
public final class TextsTest {
    private static final int BAD = ShoeCorner.BAD, FULL = ShoeCorner.FULL, NONE = ShoeCorner.NONE;

    public static void main(String[] args) {
        promise22Feed();
        promise23Trim();
        promise24Faults();
        promise24Values();
        promise24Anew();
        promise24Full();
        promise25TextTold();
        promise26Why();
        Due.end("TextsTest");
    }

    private static void promise22Feed() {
        ShoeCorner x = new ShoeCorner();
        for (int i = 1; i <= 8; i++) {
            Due.due("feed " + i, x.feed(i, i, i), 12 * i);
        }
        Due.due("96 are enough", x.feed(0, 0, 0), FULL);
        Due.due("bytes", x.count(7), 96);
        x.trim(85);
        Due.due("97", x.feed(0, 0, 0), FULL);
        x.trim(84);
        Due.due("96", x.feed(0, 0, 0), 96);
        x.trim(0);
        // "fee ", "12+3", "4   ": the highest byte first.
        Due.due("feed", x.feed(0x66656520, 0x31322b33, 0x34202020), 12);
        Due.due("text", x.text(), 0);
        Due.due("fee", x.fee(), 46);
        // "shin", then "e 12", "-x  ": the bytes that go on behind a trim.
        x.feed(0x7368696e, 0, 0);
        x.trim(4);
        Due.due("feed", x.feed(0x65203132, 0x2d782020, 0), 16);
        Due.due("text", x.text(), -109);
    }

    private static void promise23Trim() {
        ShoeCorner x = new ShoeCorner();
        Due.due("0 of 0", x.trim(0), 0);
        Due.due("1 of 0", x.trim(1), BAD);
        x.feed(0, 0, 0);
        Due.due("12 of 12", x.trim(12), 12);
        Due.due("13 of 12", x.trim(13), BAD);
        Due.due("-1", x.trim(-1), BAD);
        Due.due("bytes", x.count(7), 12);
        Due.due("5", x.trim(5), 5);
        Due.due("6 of 5", x.trim(6), BAD);
        Due.due("bytes", x.count(7), 5);
    }

    private static void fault(String text, int place) {
        ShoeCorner x = new ShoeCorner();
        Due.due("text '" + text + "'", Due.text(x, text), -100 - place);
        Due.due("none came", x.count(5), 0);
        Due.due("the tape is used up", x.count(7), 0);
        for (int key = 0; key < 3; key++) {
            Due.due("none counts", x.why(key), NONE);
        }
    }

    private static void fine(String text) {
        ShoeCorner x = new ShoeCorner();
        Due.due("text '" + text + "'", Due.text(x, text), 0);
        Due.due("the tape is used up", x.count(7), 0);
        Due.due("one came", x.count(5), 1);
    }

    private static void promise24Faults() {
        fault("", 0);
        fault("   ", 3);
        fault("shine", 5);
        fault("fee  ", 5);
        fault("shines r", 0);
        fault(" shin r", 1);
        fault("Fee 1", 0);
        fault("feefee 1", 0);
        fault("feea 1", 0);
        fault("feez 1", 0);
        fault("xee 1", 0);
        fault("fex 1", 0);
        fault("fee fee", 4);
        fault("fee1", 3);
        fault("12 fee", 0);
        fault("(fee 1)", 0);
        fault("fee 12345", 4);
        fault("fee 00000", 4);
        fault("fee 1+12345", 6);
        fault("fee 1 2", 6);
        fault("fee 1l", 5);
        fault("fee l1", 5);
        fault("fee l l", 6);
        fault("fee ll", 4);
        fault("fee r", 4);
        fault("fee p", 4);
        fault("shine l", 6);
        fault("shine s", 6);
        fault("fine r", 5);
        fault("fee +1", 4);
        fault("fee -1", 4);
        fault("fee 1+", 6);
        fault("fee 1+ ", 7);
        fault("fee 1++1", 6);
        fault("fee 1<2<3", 7);
        fault("fee 1=2>3", 7);
        fault("fee 1<=2", 6);
        fault("fee 1||2", 6);
        fault("fee 1!", 5);
        fault("fee 1!2", 5);
        fault("fee (1", 6);
        fault("fee (1))", 7);
        fault("fee ()", 5);
        fault("fee )", 4);
        fault("fee (1 2)", 7);
        fault("fee !", 5);
        fault("fee 1.", 5);
        fault("fee 1\t", 5);
        fault("fee 1" + (char) 0, 5);
        fault("fee " + (char) 233, 4);
        fault("fee " + (char) (256 - 128 + '1'), 4);
        fault("fee L", 4);
        fault("fee ((((((((( 1)))))))))", 12);
        fault("fee !!!!!!!!!1", 12);
        fault("fee !!!!(!!!!!1)", 13);
        fault("fee !(!(!(!(!(!(!(!(!", 20);
        fault("fee ((((((((1))))))))+(((((((((1", 30);
        fine("fee 1");
        fine("  fee  ( 1 )  ");
        fine("fee(1)");
        fine("fee!1");
        fine("fee ((((((((1))))))))");
        fine("fee ((((((((1))))))))+((((((((1))))))))");
        fine("fee !!!!!!!!1");
        fine("fee !!!!!!!!1+!!!!!!!!1");
        fine("fee !(!(!(!(!(!(!(!(1))))))))");
        fine("fee (1<2)<3");
        fine("fee 1<2&3<4|5=6");
        fine("fee 0000+9999");
        fine("shine r*d");
        fine("fee 1" + "+1".repeat(45));
    }

    private static int value(String text) {
        ShoeCorner x = new ShoeCorner();
        Due.due("text '" + text + "'", Due.text(x, "fee " + text), 0);
        return x.fee();
    }

    private static void promise24Values() {
        String[] texts = {"1<1", "2+3*4", "(2+3)*4", "10-3-2", "100/7/2", "7/0", "(0-7)/2", "1<2", "2<1", "2>1", "1>1", "3=3",
            "3=4", "1+1=2", "5&2", "5&0", "0&5", "0|7", "0|0", "!0", "!5", "!!5", "!1+1", "!(1+1)", "1|0&0", "(1|0)&0",
            "1<2&1", "0-1<0", "2*3/4", "2/4*3", "9999*9999*9999", "(0-5)&1", "0&1|1",
            "0-9999*9999*99*99", "0=0*2", "2-1<1+1&3>2", "!3*5+!0*5", "0010+1"};
        int[] due = {0, 14, 20, 5, 7, 0, -3, 1, 0, 1, 0, 1, 0, 1, 1, 0, 0, 1, 0, 1, 0, 1, 1, 0, 1, 0, 1, 1, 1, 0,
            9999 * 9999 * 9999, 1, 1, -(9999 * 9999 * 99 * 99), 1, 1, 5, 11};
        for (int i = 0; i < texts.length; i++) {
            Due.due(texts[i], value(texts[i]), due[i]);
        }
        ShoeCorner x = new ShoeCorner();
        x.boy(0, 7, 1, 1);
        Due.text(x, "shine (r=3)*100+(d=4)*10+(p=7)");
        Due.due("names of shine", x.shine(0, 3, 4), 111);
        Due.text(x, "shine 0");
        Due.due("0 is a number", x.shine(0, 3, 4), 0);
    }

    /** What an earlier text left, on the tape or of a fault, does not count. */
    private static void promise24Anew() {
        ShoeCorner x = new ShoeCorner();
        Due.due("fault", Due.text(x, "fee 1+2+("), -109);
        Due.due("behind a fault", Due.text(x, "fee 7"), 0);
        Due.due("operands", x.textTold(0, 1), 1);
        Due.due("fee", x.fee(), 7);
        Due.feed(x, "fee llll");
        x.trim(5);
        Due.due("trimmed within a word", x.text(), 1);
        Due.feed(x, "fee 1234");
        x.trim(5);
        Due.due("trimmed within a number", x.text(), 2);
        Due.due("fee", x.fee(), 1);
        Due.text(x, "   ");
        Due.due("an empty tape", x.text(), -100);
    }

    private static void promise24Full() {
        ShoeCorner x = new ShoeCorner();
        for (int i = 0; i < 14; i++) {
            Due.due("text " + i, Due.text(x, "fee " + i), i);
        }
        Due.due("fifteenth", Due.text(x, "fee 99"), FULL);
        Due.due("used up", x.count(7), 0);
        Due.due("the last counts", x.fee(), 13);
        Due.due("a fault stands first", Due.text(x, "fee"), -103);
        Due.due("fourteen", x.count(5), 14);
        Due.due("fifteenth of another key", Due.text(x, "shine 1"), FULL);
        Due.due("none counts", x.why(0), NONE);
    }

    private static void promise25TextTold() {
        ShoeCorner x = new ShoeCorner();
        Due.text(x, "shine r+(d*p)-12");
        Due.text(x, "fee 1");
        Due.text(x, "fine !p|!d&0<0003");
        int[][] due = {{0, 4}, {1, 1}, {2, 4}};
        for (int text = 0; text < 3; text++) {
            for (int what = 0; what < 2; what++) {
                Due.due("textTold " + text + " " + what, x.textTold(text, what), due[text][what]);
            }
        }
        Due.text(x, "fee 1+2+3+");
        int[][] bad = {{-1, 0}, {3, 0}, {0, -1}, {0, 2}};
        for (int[] b : bad) {
            Due.due("bad textTold", x.textTold(b[0], b[1]), BAD);
        }
        Due.due("as before", x.textTold(1, 1), 1);
    }

    private static void promise26Why() {
        ShoeCorner x = new ShoeCorner();
        String[] keys = {"shine", "fee", "fine"};
        int[] order = {1, 0, 1, 2, 2, 0};
        int[] last = {NONE, NONE, NONE};
        for (int i = 0; i < order.length; i++) {
            Due.text(x, keys[order[i]] + " 1");
            last[order[i]] = i;
            for (int key = 0; key < 3; key++) {
                Due.due("why " + key, x.why(key), last[key]);
            }
        }
        Due.due("-1", x.why(-1), BAD);
        Due.due("3", x.why(3), BAD);
    }
}
