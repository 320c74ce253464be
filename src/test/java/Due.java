import java.nio.charset.StandardCharsets;

/** What the tests share: answers that are due, and texts brought to the tape. */
final class Due {
    private static int wrong = 0;
    private static int asked = 0;

    private Due() {
    }

    static void due(String call, int got, int want) {
        asked++;
        if (got != want) {
            wrong++;
            System.out.println(call + " answered " + got + ", due is " + want);
        }
    }

    static void holds(String what, boolean holds) {
        asked++;
        if (!holds) {
            wrong++;
            System.out.println("does not hold: " + what);
        }
    }

    /** Feeds a text (one sign a byte) and reads it. */
    static int text(ShoeCorner x, String text) {
        feed(x, text);
        return x.text();
    }

    static void feed(ShoeCorner x, String text) {
        byte[] bytes = text.getBytes(StandardCharsets.ISO_8859_1);
        int length = x.count(7) + bytes.length;
        for (int i = 0; i < bytes.length; i += 12) {
            x.feed(number(bytes, i), number(bytes, i + 4), number(bytes, i + 8));
        }
        x.trim(length);
    }

    private static int number(byte[] bytes, int at) {
        int number = 0;
        for (int i = at; i < at + 4; i++) {
            number = number << 8 | (i < bytes.length ? bytes[i] & 255 : 32);
        }
        return number;
    }

    static void end(String name) {
        System.out.println(name + ": " + asked + " asked, " + wrong + " wrong");
        if (wrong != 0) {
            System.exit(1);
        }
    }
}
