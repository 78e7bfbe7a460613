/** The boundary cases of promises 22 to 25: the tape, texts, their faults, the rule, what texts say. */
public final class TextsEdgesTest {
    private static final Check c = new Check("TextsEdgesTest");
    private static final Edge e = new Edge(c);
    private static final long NO = Edge.NO;

    public static void main(String[] args) {
        feedSides();
        feedFull();
        feedTakesTheLowestBytes();
        textFull();
        textEmptiesTheTape();
        textBehindAFault();
        textOfAnEmptyTape();
        textOfAFullTape();
        blanks();
        bytesThatBeginNone();
        lettersAndDigits();
        tokensAsLongAsCanBe();
        wordsThatAreNone();
        numbersOfFourDigits();
        endsTooEarly();
        cannotStandThere();
        oneComparison();
        firstFaultCounts();
        fiveOpen();
        sixOpen();
        openTillItEnds();
        oneOrZero();
        whatIsNotZeroIsTrue();
        wrapping();
        bindings();
        forceSides();
        saysSides();
        saysAtItsSides();
        saysByMonth();
        c.finish();
    }

    private static int text(String text) {
        return Check.text(new MonsoonTrade(), text);
    }

    /** What an E comes to, with gain 100, days 20, men 3, parts 4, owed 50, month 0. */
    private static void value(String expression, long due) {
        MonsoonTrade x = new MonsoonTrade();
        c.due("text of " + expression, Check.text(x, "part " + expression + ";food " + expression + ";loan " + expression + ";"), 1);
        for (int part = 0; part < 3; part++) {
            c.due("part " + part + ", " + expression, x.says(1, part, 100, 20, 3, 4, 50), due);
        }
    }

    /** The place of a FAULT in the E of a text, counted from the first byte of that; size: in what stands behind it. */
    private static void fault(String expression, int place) {
        c.due("fault of part " + expression, text("part " + expression + ";food 2;loan 3;"), -100 - 5 - place);
        c.due("fault of food " + expression, text("part 1;food " + expression + ";loan 3;"), -100 - 12 - place);
        c.due("fault of loan " + expression, text("part 1;food 2;loan " + expression + ";"), -100 - 19 - place);
    }

    private static void stands(String expression) {
        c.due("part " + expression, text("part " + expression + ";food 2;loan 3;"), 1);
        c.due("food " + expression, text("part 1;food " + expression + ";loan 3;"), 1);
        c.due("loan " + expression, text("part 1;food 2;loan " + expression + ";"), 1);
    }

    private static String times(String what, int n) {
        return what.repeat(n);
    }

    // ---- promise 22

    /** "BAD: n is not 1 .. 8" */
    private static void feedSides() {
        e.outside("n", Scene.NEW, -2, 1, 8, (x, n) -> x.feed(n, 0x3131313131313131L));
        e.outside("n", Scene.BUSY, -2, 1, 8, (x, n) -> x.feed(n, 0x3131313131313131L));
        e.outside("BAD ahead of FULL", Scene.CROWDED, -2, 1, 8, (x, n) -> x.feed(n, 0));
        for (int n = 1; n <= 8; n++) {
            MonsoonTrade x = new MonsoonTrade();
            c.due("fed " + n, x.feed(n, -1), n);
            c.due("the tape has " + n, x.count(4), n);
        }
    }

    private static MonsoonTrade tapeOf(int size) {
        MonsoonTrade x = new MonsoonTrade();
        Check.feed(x, times(" ", size));
        return x;
    }

    /** "THE TAPE (160 bytes at most)"; "FULL" */
    private static void feedFull() {
        for (int n = 1; n <= 8; n++) {
            int bytes = n;
            e.refused("full, " + n + " more", Scene.CROWDED, -4, x -> x.feed(bytes, 0));
            c.due("up to the last byte by " + n, tapeOf(160 - n).feed(n, 0), 160);
            MonsoonTrade x = tapeOf(161 - n);
            c.due("beyond by one with " + n, x.feed(n, 0), -4);
            c.due("none of them came", x.count(4), 161 - n);
            c.due("room for " + (n - 1), n == 1 ? 160 : x.feed(n - 1, 0), 160);
        }
    }

    /** "The n lowest bytes of a number, the lowest first" */
    private static void feedTakesTheLowestBytes() {
        String whole = "part 1;food 2;loan 3;";
        for (int n = 1; n <= 8; n++) {
            MonsoonTrade x = new MonsoonTrade();
            for (int from = 0; from < whole.length(); from += n) {
                long bytes = n == 8 ? 0 : -1L << 8 * n;
                int here = Math.min(n, whole.length() - from);
                for (int i = 0; i < here; i++) {
                    bytes = bytes & ~(255L << 8 * i) | (long) whole.charAt(from + i) << 8 * i;
                }
                x.feed(here, bytes);
            }
            c.due("bytes by " + n, x.count(4), 21);
            c.due("text by " + n, x.text(), 1);
            c.due("loan by " + n, x.says(1, 2, 0, 0, 0, 0, 0), 3);
        }
        MonsoonTrade x = new MonsoonTrade();
        Check.feed(x, "part 1;food 2;loan 3;");
        x.feed(8, 0x8020202020202020L);
        c.due("the highest byte is above 127", x.text(), -128);
        MonsoonTrade y = new MonsoonTrade();
        Check.feed(y, "part 1;food 2;loan 3;");
        y.feed(7, 0x8020202020202020L);
        c.due("the highest byte does not come", y.text(), 1);
    }

    // ---- promise 23

    /** "TEXTS (6)"; "FULL (ahead of all): no TEXT more has room (THE TAPE stays)" */
    private static void textFull() {
        MonsoonTrade x = new MonsoonTrade();
        for (int i = 1; i < 6; i++) {
            c.due("none such yet", x.says(i, 0, 0, 0, 0, 0, 0), NO);
            c.due("text " + i, Check.text(x, "part " + i + ";food 1;loan 1;"), i);
            c.due("says " + i, x.says(i, 0, 0, 0, 0, 0, 0), i);
        }
        c.due("an empty tape: FULL, no fault", x.text(), -4);
        Check.feed(x, "part !");
        c.due("a faulty tape: FULL, no fault", x.text(), -4);
        c.due("it stays", x.count(4), 6);
        c.due("more comes behind it", x.feed(1, 0), 7);
        e.refused("a good text that fills the tape", Scene.CROWDED, -4, y -> y.text());
    }

    /** "THE TAPE, which is empty then (by a FAULT, too)" */
    private static void textEmptiesTheTape() {
        MonsoonTrade x = new MonsoonTrade();
        c.due("a text", Check.text(x, "part 1;food 1;loan 1;"), 1);
        c.due("empty", x.count(4), 0);
        c.due("nothing stands there", x.text(), -100);
        c.due("a fault", Check.text(x, "part 1;food !"), -112);
        c.due("empty by a fault", x.count(4), 0);
        c.due("nothing stands there by a fault", x.text(), -100);
        c.due("no number is gone by faults", Check.text(x, "part 2;food 2;loan 2;"), 2);
        c.due("texts", x.count(3), 3);
        c.due("what was read first stays", x.says(1, 0, 0, 0, 0, 0, 0), 1);
        c.due("as text 0 does", x.says(0, 0, 0, 0, 0, 7, 0), 7);
        c.due("the rule stays", x.count(6), 0);
        Check.text(x, times("1", 160));
        c.due("160 bytes again", Check.feed(x, times(" ", 160)), 160);
    }

    /** What a FAULT left behind counts for no other TEXT. */
    private static void textBehindAFault() {
        String[] faulty = {"part (((((x", "part not not not not not x", "part -----x", "part (((((1)))));food ((((((", "part 1+2*",
            times("((", 80), "part 1;food 2;loan 3; x                    "};
        for (String text : faulty) {
            MonsoonTrade x = new MonsoonTrade();
            c.holds("a fault: " + text, Check.text(x, text) <= -100);
            c.due("a good one behind it", Check.text(x, "part(((((7)))));food-----8;loan 9;"), 1);
            c.due("its part", x.says(1, 0, 0, 0, 0, 0, 0), 7);
            c.due("its food", x.says(1, 1, 0, 0, 0, 0, 0), -8);
            c.due("its loan", x.says(1, 2, 0, 0, 0, 0, 0), 9);
            c.due("a fault behind it", Check.text(x, "part((((((7))))));"), -109);
            c.due("it ends too early behind longer ones", Check.text(x, "part 1;"), -107);
        }
    }

    private static void textOfAnEmptyTape() {
        c.due("empty", text(""), -100);
        c.due("a blank", text(" "), -101);
        c.due("a newline", text("\n"), -101);
        c.due("blanks alone to the end", text(times(" ", 160)), -260);
    }

    private static void textOfAFullTape() {
        String whole = "part 1;food 2;loan 3;";
        c.due("blanks behind, to the end", text(whole + times(" ", 139)), 1);
        c.due("blanks ahead, to the end", text(times("\n", 139) + whole), 1);
        c.due("the last byte is wrong", text(whole + times(" ", 138) + "!"), -259);
        c.due("the last byte is missing", text(times(" ", 140) + "part 1;food 2;loan 3"), -260);
        for (String word : new String[] {"par", "part", "gai", "gain", "x", "no", "not", "9", "-", "("}) {
            boolean stands = word.equals("part");
            c.due("ends in " + word, text(times(" ", 160 - word.length()) + word), stands ? -260 : -260 + word.length());
            String ahead = "part 1+";
            boolean is = word.equals("gain") || word.equals("9") || word.equals("-") || word.equals("(");
            String tape = times(" ", 160 - word.length() - ahead.length()) + ahead + word;
            c.due("ends in a part in " + word, text(tape), is ? -260 : -260 + word.length());
        }
        String sum = "1" + times("+1", 71);
        MonsoonTrade x = new MonsoonTrade();
        for (int i = 1; i < 6; i++) {
            String text = i % 2 == 1 ? "part" + sum + ";food2;loan1;" : "part1;food2;loan" + sum + ";";
            c.due("its size", text.length(), 160);
            c.due("as many tokens as can be", Check.text(x, text), i);
            c.due("its part", x.says(i, 0, 0, 0, 0, 0, 0), i % 2 == 1 ? 72 : 1);
            c.due("its food", x.says(i, 1, 0, 0, 0, 0, 0), 2);
            c.due("its loan", x.says(i, 2, 0, 0, 0, 0, 0), i % 2 == 1 ? 1 : 72);
        }
    }

    // ---- TOKENS

    /** "blanks (32, 10) may stand between" */
    private static void blanks() {
        c.due("none but where words would run into one", text("part 1;food 2;loan 3;"), 1);
        c.due("none at all", text("part1;food2;loan3;"), 1);
        c.due("everywhere", text(" \n part \n 1 \n ; \n food \n ( \n 2 \n ) \n ; \n loan \n - \n 3 \n ; \n "), 1);
        c.due("not in a word", text("pa rt 1;food 2;loan 3;"), -100);
        fault("1 2", 2);
        fault("ga in", 0);
        fault("1\n2", 2);
    }

    /** "also of a byte that begins none": for every byte, where a ONE is due and where the text is at its end. */
    private static void bytesThatBeginNone() {
        for (int b = 0; b < 256; b++) {
            boolean blank = b == 32 || b == 10;
            String at = "byte " + b;
            c.due(at + " first", text((char) b + "part 1;food 2;loan 3;"), blank ? 1 : -100);
            c.due(at + " last", text("part 1;food 2;loan 3;" + (char) b), blank ? 1 : -121);
            boolean one = b >= '0' && b <= '9' || b == '-' || blank;
            int due = one ? 1 : b == '(' ? -107 : -105;
            c.due(at + " ahead of a one", text("part " + (char) b + "1;food 2;loan 3;"), due);
            boolean joins = "+-*<=".indexOf(b) >= 0 || b >= '0' && b <= '9';
            due = joins ? 1 : blank ? -108 : b == ';' ? -108 : -107;
            c.due(at + " between numbers", text("part 12" + (char) b + "3;food 2;loan 3;"), due);
        }
    }

    /** "WORDS (a .. z), NUMBERS" of digits: the bytes beside them begin none. */
    private static void lettersAndDigits() {
        fault("`", 0);
        fault("{", 0);
        fault("/", 0);
        fault(":", 0);
        fault("A", 0);
        fault("Z", 0);
        fault("GAIN", 0);
        fault("gain`", 4);
        fault("gain{", 4);
        fault("gainS", 4);
        fault("gaina", 0);
        fault("gainz", 0);
        fault("12/", 2);
        fault("12:", 2);
        stands("0");
        stands("9");
        fault("a", 0);
        fault("z", 0);
    }

    /** "TOKENS, each as long as can be" */
    private static void tokensAsLongAsCanBe() {
        c.due("partparts is one word", text("partparts;food 2;loan 3;"), -100);
        c.due("a number ends a word", text("part1;food2;loan3;"), 1);
        c.due("foodfood is one word", text("part 1;foodfood;loan 3;"), -107);
        fault("notgain", 0);
        fault("1+gaingain", 2);
        fault("gain1", 4);
        fault("1gain", 1);
        fault("1<=2", 2);
        fault("1==2", 2);
        fault("1=<2", 2);
        value("not1", 0);
        value("1or0", 1);
        value("7and0or0", 0);
        value("1--1", 2);
        value("1---1", 0);
        fault("12345", 0);
        value("1 - -1", 2);
    }

    /** "a WORD that is neither KEY nor NAME" */
    private static void wordsThatAreNone() {
        String[] names = {"gain", "days", "men", "parts", "owed", "month"};
        String[] keys = {"part", "food", "loan", "or", "and", "not"};
        int[] values = {100, 20, 3, 4, 50, 0};
        for (int i = 0; i < names.length; i++) {
            value(names[i], values[i]);
            fault(names[i] + "x", 0);
            fault("x" + names[i], 0);
            boolean isPart = names[i].equals("parts");
            if (!isPart) {
                fault(names[i].substring(0, names[i].length() - 1), 0);
            }
            fault(names[i].substring(1), 0);
        }
        for (String key : keys) {
            if (!key.equals("not")) {
                fault(key + " 1", 0);
            }
            fault("1+" + key, 2);
            fault("1 " + key + "x 1", 2);
        }
        fault("1 x 1", 2);
        fault("1 o 1", 2);
        fault("1 orr 1", 2);
        fault("1 an 1", 2);
        fault("not x 1", 4);
        fault("- x 1", 2);
        fault("(x 1)", 1);
        fault("1+x 1", 2);
        fault("1 gain", 2);
        fault("1 not 1", 2);
        c.due("a word that is none for a key", text("parts 1;food 2;loan 3;"), -100);
        c.due("a word that is none for a key", text("par 1;food 2;loan 3;"), -100);
        c.due("a word that is none for food", text("part 1;foods 2;loan 3;"), -107);
        c.due("a word that is none for loan", text("part 1;food 2;loa 3;"), -114);
    }

    /** "NUMBERS (as many digits as stand there, 4 at most)"; "a NUMBER that is too long" */
    private static void numbersOfFourDigits() {
        value("0", 0);
        value("0000", 0);
        value("0001", 1);
        value("1000", 1000);
        value("9999", 9999);
        fault("10000", 0);
        fault("00000", 0);
        fault("00001", 0);
        fault("99999", 0);
        fault("1234567890", 0);
        fault(times("0", 100), 0);
        fault("1+10000", 2);
        fault("1*99999", 2);
        fault("1 99999", 2);
        value("9999+9999", 19998);
    }

    // ---- FAULTS

    /** "(the text's size, if it ends too early)" */
    private static void endsTooEarly() {
        String whole = "part ( 1 ) ; food - 2 ; loan not 3 < 4 ;";
        for (int size = 0; size <= whole.length(); size++) {
            String cut = whole.substring(0, size);
            boolean inAWord = size > 0 && size < whole.length() && Character.isLetter(whole.charAt(size - 1))
                    && Character.isLetter(whole.charAt(size));
            if (size == whole.length()) {
                c.due("whole", text(cut), 1);
            } else if (inAWord) {
                c.due("ends in a word: " + cut, text(cut), -100 - (cut.lastIndexOf(' ') + 1));
            } else {
                c.due("ends too early: " + cut, text(cut), -100 - size);
                c.due("ends too early: " + cut + ", blanks behind", text(cut + " \n "), -100 - size - 3);
            }
        }
    }

    /** "the place of the first byte of the first TOKEN that can't stand there" */
    private static void cannotStandThere() {
        c.due("food first", text("food 1;part 2;loan 3;"), -100);
        c.due("loan first", text(" loan 1;"), -101);
        c.due("a number first", text("1;food 2;loan 3;"), -100);
        c.due("; first", text(";"), -100);
        c.due("loan for food", text("part 1;loan 2;food 3;"), -107);
        c.due("food for loan", text("part 1;food 2;food 3;"), -114);
        c.due("a fourth", text("part 1;food 2;loan 3;part 4;"), -121);
        c.due("a ; behind", text("part 1;food 2;loan 3;;"), -121);
        c.due("a number behind", text("part 1;food 2;loan 3; 4"), -122);
        c.due("no ; behind part", text("part 1 food 2;loan 3;"), -107);
        c.due("no ; behind loan", text("part 1;food 2;loan 3 4"), -121);
        fault("", 0);
        fault(" ", 1);
        fault(")", 0);
        fault("+1", 0);
        fault("*1", 0);
        fault("<1", 0);
        fault("=1", 0);
        fault("or 1", 0);
        fault("and 1", 0);
        fault("part", 0);
        fault("()", 1);
        fault("(1", 2);
        fault("1)", 1);
        fault("(1))", 3);
        fault("(1;)", 2);
        fault("1(2)", 1);
        fault("(1)(2)", 3);
        fault("(1)2", 3);
        fault("1 2", 2);
        fault("gain days", 5);
        fault("1+", 2);
        fault("1-", 2);
        fault("1*", 2);
        fault("1<", 2);
        fault("1=", 2);
        fault("1 or", 4);
        fault("1 and", 5);
        fault("not", 3);
        fault("-", 1);
        fault("1++1", 2);
        fault("1+*1", 2);
        fault("1*+1", 2);
        fault("1**1", 2);
        fault("1 or or 1", 5);
        fault("1 and or 1", 6);
        fault("not or 1", 4);
        fault("not and 1", 4);
        fault("not<1", 3);
        fault("-not 1", 1);
        fault("1+not 1", 2);
        fault("1*not 1", 2);
        fault("1<not 1", 2);
        fault("1=not 1", 2);
        fault("- - not 1", 4);
        stands("(not 1)");
        stands("1+(not 1)");
        stands("-(not 1)");
        stands("1 or not 1");
        stands("1 and not 1");
        stands("not not 1");
        stands("1*-1");
        stands("1<-1");
        stands("not -1");
        stands("not(1)");
    }

    /** "perhaps < or = and a SUM": once. */
    private static void oneComparison() {
        fault("1<2<3", 3);
        fault("1<2=3", 3);
        fault("1=2<3", 3);
        fault("1=2=3", 3);
        fault("not 1<2<3", 7);
        stands("(1<2)<3");
        stands("1<(2<3)");
        stands("1<2 and 2<3");
        stands("1<2 or 2=3");
        stands("not 1<2");
        value("(1<2)=1", 1);
        value("1<2 and 3<2", 0);
    }

    private static void firstFaultCounts() {
        fault("1 2 3 !", 2);
        fault("! x 12345", 0);
        fault("12345 !", 0);
        fault("1 x 2", 2);
        fault("((((((12345", 5);
        fault("1+;!", 2);
        c.due("in part ahead of food", text("part x;food y;loan z;"), -105);
        c.due("in food ahead of loan", text("part 1;food y;loan z;"), -112);
        c.due("in loan", text("part 1;food 2;loan z;"), -119);
        c.due("a byte that begins none far behind", text("part 1;food;!"), -111);
    }

    /** All rows of so many of (, not, - that may stand: a not may not stand behind a -. */
    private static void openRows(int n, String row, int[] starts, int at) {
        if (at == n) {
            openRow(n, row, starts);
            return;
        }
        boolean behindMinus = row.endsWith("-");
        for (String next : new String[] {"(", "-", "not "}) {
            if (next.equals("not ") && behindMinus) {
                continue;
            }
            starts[at] = row.length();
            openRows(n, row + next, starts, at + 1);
        }
    }

    private static void openRow(int n, String row, int[] starts) {
        String closed = row + "1" + times(")", (int) row.chars().filter(sign -> sign == '(').count());
        if (n <= 5) {
            stands(closed);
        } else {
            fault(closed, starts[5]);
        }
    }

    private static void fiveOpen() {
        for (int n = 1; n <= 5; n++) {
            openRows(n, "", new int[n], 0);
        }
    }

    /** "a ( , a not, a - ahead of a ONE while 5 of these are open" */
    private static void sixOpen() {
        openRows(6, "", new int[6], 0);
        openRows(7, "", new int[7], 0);
        fault("(((((x", 5);
        fault("(((((-", 5);
        fault("(((((not", 5);
        fault("(((((()", 5);
        stands("(((((1-1)))))");
        stands("(((((1+1*1<1 and 1 or 1)))))");
    }

    /** "(a ( till its ) , not and - till what they belong to ends)" */
    private static void openTillItEnds() {
        stands("(1)+(((((1)))))");
        stands("(((((1)))))+(((((1)))))");
        fault("(1+(((((1))))))", 7);
        stands("((1)+((((1)))))");
        stands("-1+(((((1)))))");
        stands("-1-(((((1)))))");
        stands("-1*(((((1)))))");
        fault("-(((((1)))))", 5);
        stands("-----1*-----1");
        stands("-(1)+(((((1)))))");
        fault("not 1+(((((1)))))", 10);
        fault("not 1*(((((1)))))", 10);
        fault("not 1<(((((1)))))", 10);
        stands("not 1 and(((((1)))))");
        stands("not 1 or(((((1)))))");
        stands("not not not not not 1 and not not not not not 1");
        stands("(not 1)+((((1))))");
        stands("(not 1)+(((((1)))))");
        fault("(1 or(((((1))))))", 9);
        fault("(1 and not((((1)))))", 13);
        c.due("each part begins anew", text("part(((((1)))));food-----1;loan not not not not not 1;"), 1);
    }

    // ---- what an E comes to

    /** "of or, and, not, <, = 1 or 0" */
    private static void oneOrZero() {
        value("7 or 9", 1);
        value("7 or 0", 1);
        value("0 or 9", 1);
        value("0 or 0", 0);
        value("7 and 9", 1);
        value("7 and 0", 0);
        value("0 and 9", 0);
        value("0 and 0", 0);
        value("not 0", 1);
        value("not 1", 0);
        value("not 7", 0);
        value("not not 7", 1);
        value("1<2", 1);
        value("2<2", 0);
        value("3<2", 0);
        value("1=2", 0);
        value("2=2", 1);
        value("3=2", 0);
        value("5", 5);
        value("(7)", 7);
    }

    private static void whatIsNotZeroIsTrue() {
        value("-1 or 0", 1);
        value("-1 and -2", 1);
        value("not -1", 0);
        value("2 and 4", 1);
        value("1-1 or 0", 0);
        value("8192*8192*32 or 0", 1);
        value("8192*8192*64 or 0", 0);
        value("not 8192*8192*64", 1);
        value("1 and 8192*8192*64", 0);
    }

    /** "An E is an int (32 bits, wrapping)" */
    private static void wrapping() {
        value("8192*8192*31", 2080374784);
        value("8192*8192*32-1", Integer.MAX_VALUE);
        value("8192*8192*32", Integer.MIN_VALUE);
        value("8192*8192*32-1+1", Integer.MIN_VALUE);
        value("-(8192*8192*32)", Integer.MIN_VALUE);
        value("-(8192*8192*32-1)-1", Integer.MIN_VALUE);
        value("-(8192*8192*32-1)-2", Integer.MAX_VALUE);
        value("8192*8192*32*2", 0);
        value("8192*8192*64", 0);
        value("8192*8192*64+5", 5);
        value("8192*8192*32+8192*8192*32", 0);
        value("8192*8192*32<1", 1);
        value("1<8192*8192*32", 0);
        value("8192*8192*32-1<0-2", 0);
        value("-2<8192*8192*32-1", 1);
        value("8192*8192*32=-(8192*8192*32)", 1);
        value("9999*9999*9999", (int) (9999L * 9999 * 9999));
        value("9999*9999*9999*9999", (int) (9999L * 9999 * 9999 * 9999));
    }

    private static void bindings() {
        value("9-3-2", 4);
        value("9-3+2", 8);
        value("2+3*4", 14);
        value("2*3+4", 10);
        value("(2+3)*4", 20);
        value("2*(3+4)", 14);
        value("-2*3", -6);
        value("-2+3", 1);
        value("-(2+3)", -5);
        value("1+2<4", 1);
        value("4=1+3", 1);
        value("not 1=2", 1);
        value("not 0+1", 0);
        value("not 0 and 0", 0);
        value("not 0 or 1", 1);
        value("not(0 or 1)", 0);
        value("1 or 1 and 0", 1);
        value("(1 or 1)and 0", 0);
        value("0 and 0 or 1", 1);
        value("0 and(0 or 1)", 0);
        value("1 and 1 and 0", 0);
        value("0 or 0 or 1", 1);
        value("gain-days*men", 40);
        value("parts*owed-gain", 100);
    }

    // ---- promises 24 and 25

    private static void forceSides() {
        e.outside("text", Scene.NEW, -2, 0, 0, (x, n) -> x.force(n));
        e.outside("text", Scene.BUSY, -2, 0, 1, (x, n) -> x.force(n));
        e.outside("text", Scene.CROWDED, -2, 0, 5, (x, n) -> x.force(n));
        MonsoonTrade x = Scene.crowded();
        c.due("the last text", x.force(5), 0);
        c.due("the same again", x.force(5), 5);
        c.due("the first text", x.force(0), 5);
        c.due("the rule", x.count(6), 0);
        MonsoonTrade y = Scene.busy();
        Check.text(y, " x");
        Check.text(y, "part 1;");
        c.due("a text with a fault is none", y.force(2), -2);
        c.due("the rule stays", y.count(6), 1);
    }

    /** "gain (-100000 .. 100000), days (0 .. 9999), men (0 .. 16), parts (0 .. 9) and owed (0 .. 99999)"; "NO: no such" */
    private static void saysSides() {
        e.outside("text", Scene.NEW, NO, 0, 0, (x, n) -> x.says(n, 0, 1, 1, 1, 1, 1));
        e.outside("text", Scene.BUSY, NO, 0, 1, (x, n) -> x.says(n, 0, 1, 1, 1, 1, 1));
        e.outside("text", Scene.CROWDED, NO, 0, 5, (x, n) -> x.says(n, 0, 1, 1, 1, 1, 1));
        e.outside("part", Scene.BUSY, NO, 0, 2, (x, n) -> x.says(1, n, 1, 1, 1, 1, 1));
        e.outside("gain", Scene.BUSY, NO, -100000, 100000, (x, n) -> x.says(1, 0, n, 1, 1, 1, 1));
        e.outside("days", Scene.BUSY, NO, 0, 9999, (x, n) -> x.says(1, 0, 1, n, 1, 1, 1));
        e.outside("men", Scene.BUSY, NO, 0, 16, (x, n) -> x.says(1, 0, 1, 1, n, 1, 1));
        e.outside("parts", Scene.BUSY, NO, 0, 9, (x, n) -> x.says(1, 0, 1, 1, 1, n, 1));
        e.outside("owed", Scene.BUSY, NO, 0, 99999, (x, n) -> x.says(1, 0, 1, 1, 1, 1, n));
        e.due("the last text", Scene.CROWDED, 5, x -> x.says(5, 0, 1, 1, 1, 1, 1));
    }

    private static MonsoonTrade names(String part, String food, String loan) {
        MonsoonTrade x = new MonsoonTrade();
        c.due("text", Check.text(x, "part " + part + ";food " + food + ";loan " + loan + ";"), 1);
        return x;
    }

    private static void saysAtItsSides() {
        MonsoonTrade x = names("gain", "days", "men");
        c.due("least gain", x.says(1, 0, -100000, 0, 0, 0, 0), -100000);
        c.due("greatest gain", x.says(1, 0, 100000, 9999, 16, 9, 99999), 100000);
        c.due("least days", x.says(1, 1, 7, 0, 7, 7, 7), 0);
        c.due("greatest days", x.says(1, 1, 7, 9999, 7, 7, 7), 9999);
        c.due("least men", x.says(1, 2, 7, 7, 0, 7, 7), 0);
        c.due("greatest men", x.says(1, 2, 7, 7, 16, 7, 7), 16);
        MonsoonTrade y = names("parts", "owed", "gain*owed");
        c.due("least parts", y.says(1, 0, 7, 7, 7, 0, 7), 0);
        c.due("greatest parts", y.says(1, 0, 7, 7, 7, 9, 7), 9);
        c.due("least owed", y.says(1, 1, 7, 7, 7, 7, 0), 0);
        c.due("greatest owed", y.says(1, 1, 7, 7, 7, 7, 99999), 99999);
        c.due("all of them, wrapping", y.says(1, 2, 100000, 9999, 16, 9, 99999), (int) (100000L * 99999));
        c.due("below 0, wrapping", y.says(1, 2, -100000, 9999, 16, 9, 99999), (int) (-100000L * 99999));
        c.due("an int that is -1 is no refusal", names("0-1", "0-2", "0-3").says(1, 1, 0, 0, 0, 0, 0), -2);
    }

    /** "month being that of THE DAY" */
    private static void saysByMonth() {
        MonsoonTrade x = names("month", "month", "month");
        int[][] rows = {{29, 0}, {30, 1}, {59, 1}, {60, 2}, {329, 10}, {330, 11}, {359, 11}, {360, 0}, {389, 0}, {390, 1}};
        for (int[] row : rows) {
            x.days(row[0] - x.count(5));
            c.due("month on day " + row[0], x.says(1, 0, 0, 0, 0, 0, 0), row[1]);
        }
        for (int i = 0; i < 24; i++) {
            x.days(400);
        }
        c.due("day 9990", x.says(1, 2, 0, 0, 0, 0, 0), 9);
        x.days(9);
        c.due("the last day", x.count(5), 9999);
        c.due("its month", x.says(1, 1, 0, 0, 0, 0, 0), 9);
    }
}
