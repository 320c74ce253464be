/** Edges of promises 22 to 26: feed, trim, text, textTold, why. */
final class EdgesOfTexts {
    private static final int BAD = ShoeCorner.BAD, FULL = ShoeCorner.FULL, NONE = ShoeCorner.NONE;
    private static final int MIN = Integer.MIN_VALUE, MAX = Integer.MAX_VALUE;

    private EdgesOfTexts() {
    }

    static void test() {
        feed();
        trim();
        usedUp();
        textsFull();
        keys();
        grammar();
        pieces();
        words();
        blanks();
        glued();
        faults();
        nested();
        tooSoon();
        values();
        tests();
        bothSides();
        textTold();
        why();
    }

    private static void fault(String text, int place) {
        ShoeCorner x = new ShoeCorner();
        Edge.due("text '" + text + "'", Due.text(x, text), -100 - place);
        Edge.dues("none came of '" + text + "'", new int[] {x.count(5), x.count(7), x.why(0), x.why(1), x.why(2)},
            0, 0, NONE, NONE, NONE);
    }

    private static void good(String text) {
        ShoeCorner x = new ShoeCorner();
        Edge.due("text '" + text + "'", Due.text(x, text), 0);
        Edge.dues("one came of '" + text + "'", new int[] {x.count(5), x.count(7)}, 1, 0);
    }

    private static void value(String text, int due) {
        ShoeCorner x = new ShoeCorner();
        Edge.due("text 'fee " + text + "'", Due.text(x, "fee " + text), 0);
        Edge.due(text, x.fee(), due);
    }

    private static void feed() {
        Edge.of(22, "Twelve bytes come to THE TAPE, the highest of each number first: how many it has.");
        ShoeCorner x = new ShoeCorner();
        // "fine", " 1+2", "+345".
        Edge.due("feed", x.feed(0x66696e65, 0x20312b32, 0x2b333435), 12);
        Edge.due("text", x.text(), 0);
        x.boy(0, 0, 1, 1);
        Edge.due("fine", x.fine(0), 348);
        ShoeCorner behind = new ShoeCorner();
        behind.feed(0x66656520, 0x31200000, 0);
        behind.trim(5);
        behind.feed(0x2b322b33, 0x2b342b35, 0x20202020);
        Edge.dues("behind what is there", new int[] {behind.count(7), behind.text(), behind.fee()}, 17, 0, 15);
        ShoeCorner high = new ShoeCorner();
        Edge.due("any numbers", high.feed(MIN, MAX, -1), 12);
        Edge.due("byte 128 is a sign", high.text(), -100);
        Edge.of(22, "FULL: it would have more than 96.");
        ShoeCorner full = new ShoeCorner();
        for (int i = 1; i <= 8; i++) {
            Edge.due("feed", full.feed(0x20202020, 0x20202020, 0x20202020), 12 * i);
        }
        Edge.dues("96, then more", new int[] {full.feed(0, 0, 0), full.count(7)}, FULL, 96);
        full.trim(85);
        Edge.dues("97 would be too many", new int[] {full.feed(0, 0, 0), full.count(7)}, FULL, 85);
        full.trim(84);
        Edge.dues("96 are not", new int[] {full.feed(0x66656520, 0x20202020, 0x20202031), full.count(7)}, 96, 96);
        Edge.of(22, "from THE TAPE (96 bytes at most;");
        Edge.dues("all 96 are read", new int[] {full.text(), full.fee()}, 0, 1);
        Edge.refused("feed(0, 0, 0) to 96", FULL, y -> y.feed(0, 0, 0), States.FULLEST);
        Edge.refused("feed(-1, MIN, MAX) to 96", FULL, y -> y.feed(-1, MIN, MAX), States.FULLEST);
    }

    private static void trim() {
        Edge.of(23, "THE TAPE keeps its first n bytes: n. BAD.");
        ShoeCorner x = new ShoeCorner();
        Edge.dues("an empty one", new int[] {x.trim(0), x.trim(1), x.trim(-1)}, 0, BAD, BAD);
        Due.feed(x, "fee 1234");
        Edge.dues("8 of 8, 9 of 8", new int[] {x.trim(8), x.trim(9), x.count(7)}, 8, BAD, 8);
        Edge.dues("6, then 7 of 6", new int[] {x.trim(6), x.trim(7), x.count(7)}, 6, BAD, 6);
        Edge.dues("its first", new int[] {x.text(), x.fee()}, 0, 12);
        ShoeCorner word = new ShoeCorner();
        Due.feed(word, "fee llll");
        Edge.dues("its first, within a word", new int[] {word.trim(5), word.text(), word.textTold(0, 1)}, 5, 0, 1);
        Due.feed(word, "feeeeeee l");
        Edge.dues("its first, within a key", new int[] {word.trim(3), word.text()}, 3, -103);
        Edge.same("trim to all", y -> {
            States.some(y);
            y.trim(8);
        }, States::some);
        Edge.refused("trim(-1)", BAD, y -> y.trim(-1));
        Edge.refused("trim(MIN)", BAD, y -> y.trim(MIN));
        Edge.refused("trim(97)", BAD, y -> y.trim(97));
        Edge.refused("trim(MAX)", BAD, y -> y.trim(MAX));
        Edge.refused("trim(9) of 8", BAD, y -> y.trim(9), States.SOME);
        ShoeCorner zero = new ShoeCorner();
        Due.feed(zero, "fee 1");
        Edge.dues("0 of 5", new int[] {zero.trim(0), zero.count(7), zero.text()}, 0, 0, -100);
    }

    private static void usedUp() {
        Edge.of(24, "an act that reads it uses it up, whatever it answers)");
        ShoeCorner x = new ShoeCorner();
        Edge.dues("a text, then none", new int[] {Due.text(x, "fee 1"), x.count(7), x.text()}, 0, 0, -100);
        Edge.dues("a fault, then none", new int[] {Due.text(x, "fee !"), x.count(7), x.text()}, -105, 0, -100);
        Edge.dues("what was there does not come again", new int[] {Due.text(x, "fee"), Due.text(x, " 1")}, -103, -101);
        Edge.dues("nor does what a fault had read", new int[] {Due.text(x, "fee !5 5"), Due.text(x, "fee 7"), x.fee()}, -107, 1, 7);
        Edge.dues("nor does what a fault had read", new int[] {Due.text(x, "fee 1-2-3-4-"), Due.text(x, "fee 8-1"), x.fee()},
            -112, 2, 7);
        x.keep();
        Due.text(x, "fee !(!5+!6)");
        x.back();
        Edge.dues("nor a text that was there", new int[] {Due.text(x, "fee 9"), x.fee()}, 3, 9);
        Edge.same("a fault leaves all but the tape", y -> {
            States.some(y);
            Due.feed(y, "!");
            y.text();
        }, y -> {
            States.some(y);
            y.trim(0);
        });
        Edge.same("FULL leaves all but the tape", y -> {
            States.fullest(y);
            y.text();
        }, y -> {
            States.fullest(y);
            y.trim(0);
        });
    }

    private static void textsFull() {
        Edge.of(24, "TEXTS, 14 at most, numbered from 0");
        ShoeCorner x = new ShoeCorner();
        for (int i = 0; i < 14; i++) {
            Edge.due("text", Due.text(x, "fee " + i), i);
        }
        Edge.of(24, "-100 less the place of its FAULT; FULL.");
        Edge.dues("the fifteenth", new int[] {Due.text(x, "fee 99"), x.count(5), x.fee(), x.why(1)}, FULL, 14, 13, 13);
        Edge.dues("of another key", new int[] {Due.text(x, "shine 99"), x.count(5), x.why(0)}, FULL, 14, NONE);
        Edge.dues("a fault stands ahead of it", new int[] {Due.text(x, "fee 99)"), x.text(), x.count(5)}, -106, -100, 14);
        Edge.of(24, "THE TAPE is a TEXT: its number.");
        for (int i = 0; i < 14; i++) {
            Edge.dues("they stay", new int[] {x.textTold(i, 0), x.textTold(i, 1)}, 1, 1);
        }
        ShoeCorner y = new ShoeCorner();
        Edge.dues("a fault has no number", new int[] {Due.text(y, "fee"), Due.text(y, "fee 1"), Due.text(y, "fee 1 1"),
            Due.text(y, "fee 2")}, -103, 0, -106, 1);
    }

    private static void keys() {
        Edge.of(24, "KEY E. KEY: shine | fee | fine.");
        good("shine 1");
        good("fee 1");
        good("fine 1");
        for (String word : new String[] {"shin", "shines", "whine", "hine", "shone", "fe", "feee", "see", "foe", "fed", "fin", "finee",
            "line", "fane", "fire", "find", "f", "e", "fees", "feea", "feez", "afee", "zfee", "boy"}) {
            fault(word + " 1", 0);
        }
        for (String first : new String[] {"1", "(", ")", "!", "+", "=", "|", "Shine 1", "FEE 1", "_fee 1", "\tfee 1"}) {
            fault(first, 0);
            fault("  " + first, 2);
        }
        fault("fee fee 1", 4);
        fault("fee fine", 4);
        fault("(fee) 1", 0);
    }

    private static void grammar() {
        Edge.of(24, "E, the loosest first: OR: AND { | AND };");
        value("1|0|0", 1);
        value("0|0|0", 0);
        value("1|0&0", 1);
        value("0&0|1", 1);
        fault("fee 1|", 6);
        fault("fee |1", 4);
        fault("fee 1||1", 6);
        Edge.of(24, "AND: TEST { & TEST };");
        value("1&1&1", 1);
        value("1&1&0", 0);
        value("1<2&2<3", 1);
        fault("fee 1&", 6);
        fault("fee &1", 4);
        fault("fee 1&&1", 6);
        fault("fee 1&|1", 6);
        Edge.of(24, "TEST: SUM [ (< | = | >) SUM ];");
        value("1+1=2", 1);
        value("1=1+1", 0);
        value("(1<2)<2", 1);
        fault("fee 1<2<3", 7);
        fault("fee 1=2=3", 7);
        fault("fee 1>2<3", 7);
        fault("fee 1<", 6);
        fault("fee <1", 4);
        fault("fee 1<=2", 6);
        fault("fee (1<2<3)", 8);
        good("fee 1<2|1<2&1>2");
        Edge.of(24, "SUM: TERM { (+ | -) TERM };");
        value("10-3-2", 5);
        value("10-3+2", 9);
        value("2+3*4", 14);
        value("2*3+4", 10);
        fault("fee 1+", 6);
        fault("fee -1", 4);
        fault("fee +1", 4);
        fault("fee 1-+1", 6);
        Edge.of(24, "TERM: PIECE { (* | /) PIECE };");
        value("100/5/4", 5);
        value("100/5*4", 80);
        value("3*5/4", 3);
        value("5/4*3", 3);
        fault("fee 1*", 6);
        fault("fee *1", 4);
        fault("fee 1*/1", 6);
    }

    private static void pieces() {
        Edge.of(24, "PIECE: NUMBER (1 to 4 digits) | NAME | ! PIECE | ( E ).");
        value("0", 0);
        value("9", 9);
        value("9999", 9999);
        value("0000", 0);
        value("0009", 9);
        value("!1", 0);
        value("!0+1", 2);
        value("!(0+1)", 0);
        value("(((7)))", 7);
        value("2*(1|0)", 2);
        fault("fee 10000", 4);
        fault("fee 00001", 4);
        fault("fee ()", 5);
        fault("fee (1", 6);
        fault("fee 1)", 5);
        fault("fee (1)(1)", 7);
        fault("fee 1(1)", 5);
        fault("fee (1)1", 7);
        fault("fee 1!", 5);
        fault("fee !!", 6);
        fault("fee !)", 5);
        fault("fee !+1", 5);
        Edge.of(24, "NAMES, each one letter: of shine r rubs, d dirt, p PLACE; of fee l LOST, s OWNER's PURSE");
        String[] keys = {"shine", "fee", "fine"};
        String[] names = {"rdp", "ls", "pd"};
        for (int key = 0; key < 3; key++) {
            for (char name = 'a'; name <= 'z'; name++) {
                if (names[key].indexOf(name) >= 0) {
                    good(keys[key] + " " + name);
                    fault(keys[key] + " " + name + name, keys[key].length() + 1);
                } else {
                    fault(keys[key] + " " + name, keys[key].length() + 1);
                }
            }
            fault(keys[key] + " " + Character.toUpperCase(names[key].charAt(0)), keys[key].length() + 1);
        }
    }

    private static void words() {
        Edge.of(24, "A word is a row of letters a .. z, or of digits, as long as it goes; any other byte is a sign by itself.");
        for (int b = 0; b < 256; b++) {
            char sign = (char) b;
            boolean digit = sign >= '0' && sign <= '9';
            boolean goesOn = digit || sign == ' ' || "|&<=>+-*/".indexOf(sign) >= 0;
            if (digit) {
                good("fee 1" + sign);
            } else if (sign == ' ') {
                good("fee 1" + sign);
            } else {
                fault("fee 1" + sign, goesOn ? 6 : 5);
            }
        }
        for (int b = 0; b < 256; b++) {
            char sign = (char) b;
            if (sign >= '0' && sign <= '9' || sign == 'l' || sign == 's') {
                good("fee " + sign);
            } else {
                fault("fee " + sign, sign == ' ' || sign == '(' || sign == '!' ? 5 : 4);
            }
        }
        fault("fee lx", 4);
        fault("fee l_", 5);
        fault("fee `", 4);
        fault("fee {", 4);
        fault("fee /", 4);
        fault("fee :", 4);
    }

    private static void blanks() {
        Edge.of(24, "Between words and signs, and at the ends, there may be blanks (byte 32);");
        good("fee 1");
        good("   fee   1   ");
        good("fee(1)");
        good("fee!1");
        good("fee ( ! 1 + l ) * s < 2 ");
        good("fee(!1+l)*s<2");
        fault("fee\t1", 3);
        fault("fee\n1", 3);
        fault("fee 1\n", 5);
        fault("fee" + (char) 0 + "1", 3);
        fault("fee" + (char) 160 + "1", 3);
        fault("f ee 1", 0);
        fault("fee 1 2", 6);
        good(" ".repeat(91) + "fee 1");
        good("fee 1" + " ".repeat(91));
        fault(" ".repeat(92) + "fee ", 96);
    }

    private static void glued() {
        Edge.of(24, "a word right behind another one needs one.");
        fault("fee1", 3);
        fault("fee12345", 3);
        fault("shine1", 5);
        fault("fee 1l", 5);
        fault("fee l1", 5);
        fault("fee 1l2", 5);
        fault("fee 12+3s", 8);
        fault("1fee 2", 0);
        Edge.of(24, "(a word that needs a blank ahead of it, a NUMBER of more than 4 digits,");
        fault("fee 1s+!", 5);
        fault("fee 12345+!", 4);
        fault("fee 1+99999", 6);
        fault("fee (12345)", 5);
        fault("fee 12345l", 4);
        fault("fee 1234l", 8);
    }

    private static void faults() {
        Edge.of(24, "FAULT: the first byte of the first word or sign with which no TEXT goes on");
        fault("fee   xyz", 6);
        fault("fee 1   xyz", 8);
        fault("fee 1+   <", 9);
        fault("fee 1 ) x", 6);
        fault("fee 1 1 )", 6);
        fault("fee ) )", 4);
        fault("fee (1+2 3)", 9);
        fault("fee ((1)", 8);
        fault("shine l+", 6);
        fault("fine r", 5);
        Edge.of(24, "-100 less the place of its FAULT;");
        fault("?", 0);
        fault("fee 1" + "+1".repeat(45) + "?", 95);
        fault("fee 1" + "+1".repeat(45) + "+", 96);
        good("fee 1" + "+1".repeat(45) + " ");
        good("fee 12" + "+1".repeat(45));
    }

    private static void nested() {
        Edge.of(24, "the ninth ( that would be open within others, the ninth ! likewise, each by itself)");
        good("fee " + "(".repeat(8) + "1" + ")".repeat(8));
        fault("fee " + "(".repeat(9) + "1" + ")".repeat(9), 12);
        fault("fee " + "(".repeat(9), 12);
        fault("fee " + "(".repeat(8), 12);
        good("fee " + "(".repeat(8) + "1" + ")".repeat(8) + "+" + "(".repeat(8) + "1" + ")".repeat(8));
        good("fee " + "(".repeat(7) + "(1)+(1)" + ")".repeat(7));
        fault("fee " + "(".repeat(8) + "1)+((1" + ")".repeat(9), 16);
        good("fee " + "!".repeat(8) + "1");
        fault("fee " + "!".repeat(9) + "1", 12);
        fault("fee " + "!".repeat(9), 12);
        fault("fee " + "!".repeat(8), 12);
        good("fee " + "!".repeat(8) + "1+" + "!".repeat(8) + "1");
        good("fee " + "!".repeat(7) + "(!1+!1)");
        fault("fee " + "!".repeat(8) + "(!1)", 13);
        fault("fee " + "!(".repeat(8) + "!1" + ")".repeat(8), 20);
        fault("fee " + "!(".repeat(8) + "(1" + ")".repeat(9), 20);
        good("fee " + "!(".repeat(8) + "1" + ")".repeat(8));
        good("fee " + "!".repeat(8) + "(".repeat(8) + "1" + ")".repeat(8));
        good("fee " + "(".repeat(8) + "!".repeat(8) + "1" + ")".repeat(8));
        good("fee " + "!".repeat(8) + "(1)+" + "!".repeat(8) + "(1)");
        value("!".repeat(8) + "5", 1);
        value("!".repeat(7) + "5", 0);
        value("(".repeat(8) + "5" + ")".repeat(8), 5);
    }

    private static void tooSoon() {
        Edge.of(24, "the end (the place behind the last byte), if it comes too soon.");
        fault("", 0);
        fault(" ", 1);
        fault("      ", 6);
        fault(" ".repeat(96), 96);
        fault("fee", 3);
        fault("fee ", 4);
        fault("fee  ", 5);
        fault("fee (", 5);
        fault("fee ( ", 6);
        fault("fee (1 ", 7);
        fault("fee 1 + ", 8);
        fault("fee 1<", 6);
        fault("fee !", 5);
    }

    private static void values() {
        Edge.of(24, "All numbers are whole; / cuts towards 0.");
        value("7/2", 3);
        value("(0-7)/2", -3);
        value("7/(0-2)", -3);
        value("(0-7)/(0-2)", 3);
        value("1/2", 0);
        value("(0-1)/2", 0);
        Edge.of(24, "Ints wrap;");
        value("9999*9999*9999", 9999 * 9999 * 9999);
        value("1024*1024*2048", MIN);
        value("1024*1024*2048-1", MAX);
        value("(1024*1024*2048-1)+1", MIN);
        value("0-1024*1024*2048", MIN);
        value("1024*1024*2048/(0-1)", MIN);
        value("1024*1024*2048*(0-1)", MIN);
        value("1024*1024*4096", 0);
        Edge.of(24, "/ is 0 by 0;");
        value("7/0", 0);
        value("0/0", 0);
        value("(0-7)/0", 0);
        value("1024*1024*2048/0", 0);
        value("7/(3-3)+2", 2);
        value("7/0/0", 0);
    }

    private static void tests() {
        Edge.of(24, "tests, & | ! give 1 or 0 (what is not 0 is true;");
        value("1<2", 1);
        value("2<2", 0);
        value("3<2", 0);
        value("1=2", 0);
        value("2=2", 1);
        value("1>2", 0);
        value("2>2", 0);
        value("3>2", 1);
        value("1024*1024*2048<0", 1);
        value("1024*1024*2048-1>0", 1);
        value("5&7", 1);
        value("5&0", 0);
        value("0&5", 0);
        value("4&2", 1);
        value("(0-1)&(0-1)", 1);
        value("5|7", 1);
        value("5|0", 1);
        value("0|5", 1);
        value("0|0", 0);
        value("!0", 1);
        value("!1", 0);
        value("!7", 0);
        value("!(0-1)", 0);
        value("!!7", 1);
    }

    private static void bothSides() {
        // No side can be seen to be worked out, for none does anything; but none may hinder the other one.
        Edge.of(24, "both sides are worked out).");
        value("1|7/0", 1);
        value("7/0|1", 1);
        value("0&7/0", 0);
        value("7/0&1", 0);
        Edge.of(24, "Of a KEY that TEXT counts that was told last.");
        ShoeCorner x = new ShoeCorner();
        Due.text(x, "fee 1");
        Due.text(x, "fee 2");
        Due.text(x, "fine 3");
        Edge.due("the last of fee", x.fee(), 2);
        Due.text(x, "fee 4+");
        Edge.due("a fault does not count", x.fee(), 2);
        Due.text(x, "fee 5");
        Edge.due("the last of fee", x.fee(), 5);
        x.keep();
        Due.text(x, "fee 6");
        Edge.due("the last of fee", x.fee(), 6);
        x.back();
        Edge.due("by the image", x.fee(), 5);
        Edge.dues("its number comes again", new int[] {Due.text(x, "shine 7"), x.textTold(4, 0), x.why(0), x.fee()}, 4, 0, 4, 5);
    }

    private static void textTold() {
        Edge.of(25, "Of a TEXT: what 0 KEY (0 shine, 1 fee, 2 fine), 1 how many NUMBERS and NAMES it has. BAD.");
        ShoeCorner x = new ShoeCorner();
        Due.text(x, "fine 0");
        Due.text(x, "shine !(!r)");
        Due.text(x, "fee 1" + "+1".repeat(45));
        Due.text(x, "fee l+l*l-12");
        int[][] due = {{2, 1}, {0, 1}, {1, 46}, {1, 4}};
        for (int text = 0; text < 4; text++) {
            Edge.dues("textTold(" + text + ")", new int[] {x.textTold(text, 0), x.textTold(text, 1)}, due[text]);
        }
        Edge.range("textTold(0, what)", 0, 1, (y, v) -> y.textTold(0, v));
        Edge.outside("textTold(text, 0)", 0, 13, (y, v) -> y.textTold(v, 0));
        Edge.refused("textTold(3, 0) of three", BAD, y -> y.textTold(3, 0), States.SOME);
        Edge.refused("textTold(0, 0) of none", BAD, y -> y.textTold(0, 0), States.NEW);
        Edge.changesNothing("textTold(0, 1)", y -> y.textTold(0, 1));
        Due.text(x, "fee 1+2+3+4+");
        Due.text(x, "fine p");
        Edge.due("none of a fault ahead of it", x.textTold(4, 1), 1);
        ShoeCorner again = new ShoeCorner();
        again.keep();
        Due.text(again, "fee 1+2+3+4");
        again.back();
        Due.text(again, "fee 1+2");
        Edge.due("none of one that had its number", again.textTold(0, 1), 2);
        x.keep();
        Due.text(x, "fine 1");
        x.back();
        Edge.dues("gone with the image", new int[] {x.textTold(5, 0), x.textTold(4, 1), x.textTold(3, 1)}, BAD, 1, 4);
    }

    private static void why() {
        Edge.of(26, "The TEXT that counts for a KEY. BAD;");
        Edge.range("why(key)", 0, 2, (x, v) -> x.why(v));
        Edge.changesNothing("why(1)", y -> y.why(1));
        ShoeCorner full = new ShoeCorner();
        States.fullest(full);
        Edge.dues("the last ones of 14", new int[] {full.why(0), full.why(1), full.why(2)}, 12, 13, 11);
        Edge.of(26, "BAD; NONE.");
        for (int key = 0; key < 3; key++) {
            int asked = key;
            Edge.refused("why(" + key + ") of none", NONE, y -> y.why(asked), States.NEW);
        }
        String[] keys = {"shine", "fee", "fine"};
        for (int key = 0; key < 3; key++) {
            ShoeCorner x = new ShoeCorner();
            Due.text(x, keys[key] + " 1");
            Edge.dues(keys[key] + " alone", new int[] {x.why(0), x.why(1), x.why(2)}, key == 0 ? 0 : NONE, key == 1 ? 0 : NONE,
                key == 2 ? 0 : NONE);
        }
    }
}
