import java.util.Random;

/** Promises 22 to 25: the tape, texts, their faults, the rule, and what texts say. */
public final class TextsTest {
    private static final Check c = new Check("TextsTest");

    public static void main(String[] args) {
        firstText();
        feed();
        bytesOfFeed();
        tokens();
        everyByte();
        longTexts();
        faults();
        openOnes();
        values();
        says();
        month();
        force();
        fullOfTexts();
        for (int seed = 0; seed < 3000; seed++) {
            randomText(seed);
        }
        for (int seed = 0; seed < 6000; seed++) {
            brokenText(seed);
        }
        c.finish();
    }

    private static void firstText() {
        MonsoonTrade x = new MonsoonTrade();
        c.due("texts", x.count(3), 1);
        c.due("tape", x.count(4), 0);
        c.due("rule", x.count(6), 0);
        c.due("part", x.says(0, 0, 5, 6, 7, 8, 9), 8);
        c.due("food", x.says(0, 1, 5, 6, 7, 8, 9), 42);
        c.due("loan", x.says(0, 2, 5, 6, 7, 8, 9), 9);
    }

    private static void feed() {
        MonsoonTrade x = new MonsoonTrade();
        c.due("n 0", x.feed(0, 0), -2);
        c.due("n 9", x.feed(9, 0), -2);
        c.due("n -1", x.feed(-1, 0), -2);
        for (int i = 1; i <= 19; i++) {
            c.due("feed", x.feed(8, 0), 8 * i);
        }
        c.due("feed 7", x.feed(7, 0), 159);
        c.due("two more", x.feed(2, 0), -4);
        c.due("bad ahead of full", x.feed(9, 0), -2);
        c.due("tape as before", x.count(4), 159);
        c.due("one more", x.feed(1, 0), 160);
        c.due("one beyond", x.feed(1, 0), -4);
        c.due("fault at once", x.text(), -100);
        c.due("empty", x.count(4), 0);
    }

    private static void bytesOfFeed() {
        MonsoonTrade x = new MonsoonTrade();
        // what stands above the n lowest bytes does not come; the highest byte may be above 127
        c.due("p", x.feed(1, 0x7878787878787870L), 1);
        c.due("art", x.feed(3, 0xFFFFFFFFFF747261L), 4);
        Check.feed(x, " 1;food 2;loan 3;");
        c.due("text", x.text(), 1);
        Check.feed(x, "part 1");
        x.feed(8, 0xFF3B313B31323334L);
        c.due("part 14321;1; and a byte 255", x.text(), -105);
        Check.feed(x, "part 1;");
        x.feed(8, 0xFF20202020202020L);
        c.due("byte 255", x.text(), -114);
    }

    private static int textOf(String text) {
        return Check.text(new MonsoonTrade(), text);
    }

    private static void tokens() {
        c.due("no blanks", textOf("part1;food2;loan3;"), 1);
        c.due("many blanks", textOf("\n \npart \n 1 ;food 2\n;loan 3;  \n"), 1);
        c.due("zeros", textOf("part 0000;food 0009;loan 9999;"), 1);
        c.due("five digits", textOf("part 00001;food 2;loan 3;"), -105);
        c.due("a tab", textOf("part\t1;food 2;loan 3;"), -104);
        c.due("13", textOf("part\r1;food 2;loan 3;"), -104);
        c.due("capitals", textOf("Part 1;food 2;loan 3;"), -100);
        c.due("byte 0", textOf("part \0;food 2;loan 3;"), -105);
        c.due("byte 200", textOf("part " + (char) 200 + ";food 2;loan 3;"), -105);
        c.due("a word as long as can be", textOf("part notgain;food 2;loan 3;"), -105);
        c.due("a number, then a word", textOf("part 1 or2;food 2;loan 3;"), 1);
        c.due("a number and a name", textOf("part 1gain;food 2;loan 3;"), -106);
        c.due("a number and an unknown word", textOf("part 1x;food 2;loan 3;"), -106);
        c.due("a number and a key", textOf("part 1or gain;food 2;loan 3;"), 1);
        c.due("name ahead of a number", textOf("part gain1;food 2;loan 3;"), -109);
        for (String name : new String[] {"gain", "days", "men", "parts", "owed", "month"}) {
            c.due(name, textOf("part " + name + ";food " + name + ";loan " + name + ";"), 1);
        }
        for (String word : new String[] {"gai", "gains", "day", "me", "mens", "owe", "months", "par", "x", "foo", "an", "gainz", "rain", "bays", "ten", "awed", "darts", "nonth", "q"}) {
            c.due(word, textOf("part 1+" + word + ";food 2;loan 3;"), -107);
        }
        for (String key : new String[] {"part", "food", "loan", "or", "and", "not"}) {
            c.due(key, textOf("part 1+" + key + ";food 2;loan 3;"), -107);
        }
    }

    private static void everyByte() {
        String standing = "0123456789 \n(-";
        for (char b = 0; b < 256; b++) {
            if (standing.indexOf(b) < 0) {
                c.due("byte " + (int) b + " for a one", textOf("part " + b + " 1;food 2;loan 3;"), -105);
            }
            boolean blank = b == 32 || b == 10;
            c.due("byte " + (int) b + " at the end", textOf("part 1;food 2;loan 3; " + b), blank ? 1 : -122);
        }
    }

    private static void longTexts() {
        MonsoonTrade x = new MonsoonTrade();
        StringBuilder ones = new StringBuilder("1");
        while (ones.length() < 142) {
            ones.append("+1");
        }
        for (int i = 1; i < 6; i++) {
            String text = "part" + ones + ";food" + i + ";loan9;";
            c.due("its size", text.length(), 160);
            c.due("a text of " + text.length(), Check.text(x, text), i);
            c.due("part", x.says(i, 0, 0, 0, 0, 0, 0), 72);
            c.due("food", x.says(i, 1, 0, 0, 0, 0, 0), i);
            c.due("loan", x.says(i, 2, 0, 0, 0, 0, 0), 9);
        }
    }

    private static void faults() {
        c.due("empty", textOf(""), -100);
        c.due("blanks", textOf("   "), -103);
        c.due("part", textOf("part"), -104);
        c.due("part and blank", textOf("part "), -105);
        c.due("no e", textOf("part ;food 2;loan 3;"), -105);
        c.due("no ;", textOf("part 1 food 2;loan 3;"), -107);
        c.due("wrong order", textOf("food 1;part 2;loan 3;"), -100);
        c.due("part twice", textOf("part 1;part 2;loan 3;"), -107);
        c.due("no loan", textOf("part 1;food 2;"), -114);
        c.due("no last ;", textOf("part 1;food 2;loan 3"), -120);
        c.due("more behind", textOf("part 1;food 2;loan 3; ;"), -122);
        c.due("a wrong byte behind", textOf("part 1;food 2;loan 3; !"), -122);
        c.due("a first fault counts", textOf("part 1 2;food !;loan 3;"), -107);
        c.due("= twice", textOf("part 1=2=3;food 2;loan 3;"), -108);
        c.due("< and =", textOf("part 1<2=3;food 2;loan 3;"), -108);
        c.due("not in a sum", textOf("part 1+not 2;food 2;loan 3;"), -107);
        c.due("- not", textOf("part -not 2;food 2;loan 3;"), -106);
        c.due("= not", textOf("part 1=not 2;food 2;loan 3;"), -107);
        c.due("and not", textOf("part 1 and not 2;food 2;loan 3;"), 1);
        c.due("+ ahead of a one", textOf("part +2;food 2;loan 3;"), -105);
        c.due("no )", textOf("part (2;food 2;loan 3;"), -107);
        c.due("no (", textOf("part 2);food 2;loan 3;"), -106);
        c.due("()", textOf("part ();food 2;loan 3;"), -106);
        c.due("or at the end", textOf("part 1 or;food 2;loan 3;"), -109);
        c.due("* *", textOf("part 1**2;food 2;loan 3;"), -107);
        MonsoonTrade x = new MonsoonTrade();
        Check.text(x, "part 1;");
        c.due("a fault is no text", x.count(3), 1);
        c.due("the tape is empty", x.count(4), 0);
        c.due("the next one", Check.text(x, "part 1;food 1;loan 1;"), 1);
    }

    private static void openOnes() {
        c.due("5 (", textOf("part (((((1)))));food 2;loan 3;"), 1);
        c.due("6 (", textOf("part ((((((1))))));food 2;loan 3;"), -110);
        c.due("5 -", textOf("part -----1;food 2;loan 3;"), 1);
        c.due("6 -", textOf("part ------1;food 2;loan 3;"), -110);
        c.due("5 not", textOf("part not not not not not 1;food 2;loan 3;"), 1);
        c.due("6 not", textOf("part not not not not not not 1;food 2;loan 3;"), -125);
        c.due("5 mixed", textOf("part not(-(-1));food 2;loan 3;"), 1);
        c.due("6 mixed, a (", textOf("part not(-(-(1)));food 2;loan 3;"), -112);
        c.due("6 mixed, a -", textOf("part not(-(--1));food 2;loan 3;"), -112);
        c.due("a - between is not counted", textOf("part (((((1-2)))));food 2;loan 3;"), 1);
        c.due("a ( ends with its )", textOf("part ((((()))));food 2;loan 3;"), -110);
        c.due("one behind the other", textOf("part (1)+(1)+(1)+(1)+(1)+(1);food (1);loan 3;"), 1);
        c.due("- ends with its one", textOf("part -1+-1+-1*-1-(-1)-(-1);food -2;loan 3;"), 1);
        c.due("not ends with its not", textOf("part not 1 and not 1 and not 1 and not 1 and not 1 and not 1;food 2;loan 3;"), 1);
        c.due("not is open in its sum", textOf("part not 1+((((1))));food 2;loan 3;"), 1);
        c.due("not is open in its sum", textOf("part not 1+(((((1)))));food 2;loan 3;"), -115);
        c.due("not is open behind a <", textOf("part not 1<(((((1)))));food 2;loan 3;"), -115);
        c.due("- is not open behind its one", textOf("part -1+(((((1)))));food 2;loan 3;"), 1);
        c.due("( is open behind an or", textOf("part (1 or ((((1)))));food 2;loan 3;"), 1);
        c.due("( is open behind an or", textOf("part (1 or (((((1))))));food 2;loan 3;"), -115);
    }

    private static void value(String e, long want) {
        MonsoonTrade x = new MonsoonTrade();
        c.due("text of " + e, Check.text(x, "part 77;food " + e + ";loan 88;"), 1);
        c.due("part by " + e, x.says(1, 0, 100, 20, 3, 4, 50), 77);
        c.due(e, x.says(1, 1, 100, 20, 3, 4, 50), want);
        c.due("loan by " + e, x.says(1, 2, 100, 20, 3, 4, 50), 88);
    }

    private static void values() {
        value("gain", 100);
        value("days", 20);
        value("men", 3);
        value("parts", 4);
        value("owed", 50);
        value("month", 0);
        value("9-3-2", 4);
        value("2+3*4", 14);
        value("(2+3)*4", 20);
        value("-2*3", -6);
        value("--2", 2);
        value("2--3", 5);
        value("1<2", 1);
        value("2<2", 0);
        value("-1<0", 1);
        value("2=2", 1);
        value("2=3", 0);
        value("1+1=2", 1);
        value("not 0", 1);
        value("not 7", 0);
        value("not not 7", 1);
        value("not 1=2", 1);
        value("7 or 0", 1);
        value("0 or 0", 0);
        value("7 and 8", 1);
        value("7 and 0", 0);
        value("1 or 0 and 0", 1);
        value("(1 or 0) and 0", 0);
        value("0 and 0 or 5", 1);
        value("(7)", 7);
        value("9999*9999*9999", (int) (9999L * 9999 * 9999));
        value("0-9999*9999*21-9999*4800+0", (int) (-9999L * 9999 * 21 - 9999 * 4800));
        value("65*1000*1000*33+2483*1000+647<0", 0);
        value("65*1000*1000*33+2483*1000+648<0", 1);
    }

    private static void says() {
        MonsoonTrade x = new MonsoonTrade();
        Check.text(x, "part gain;food days+men;loan parts+owed;");
        long no = MonsoonTrade.NO;
        c.due("text -1", x.says(-1, 0, 0, 0, 0, 0, 0), no);
        c.due("text 2", x.says(2, 0, 0, 0, 0, 0, 0), no);
        c.due("part -1", x.says(1, -1, 0, 0, 0, 0, 0), no);
        c.due("part 3", x.says(1, 3, 0, 0, 0, 0, 0), no);
        c.due("gain above", x.says(1, 0, 100001, 0, 0, 0, 0), no);
        c.due("gain below", x.says(1, 0, -100001, 0, 0, 0, 0), no);
        c.due("days above", x.says(1, 0, 0, 10000, 0, 0, 0), no);
        c.due("days below", x.says(1, 0, 0, -1, 0, 0, 0), no);
        c.due("men above", x.says(1, 0, 0, 0, 17, 0, 0), no);
        c.due("men below", x.says(1, 0, 0, 0, -1, 0, 0), no);
        c.due("parts above", x.says(1, 0, 0, 0, 0, 10, 0), no);
        c.due("parts below", x.says(1, 0, 0, 0, 0, -1, 0), no);
        c.due("owed above", x.says(1, 0, 0, 0, 0, 0, 100000), no);
        c.due("owed below", x.says(1, 0, 0, 0, 0, 0, -1), no);
        c.due("most gain", x.says(1, 0, 100000, 9999, 16, 9, 99999), 100000);
        c.due("least gain", x.says(1, 0, -100000, 0, 0, 0, 0), -100000);
        c.due("most food", x.says(1, 1, 0, 9999, 16, 9, 99999), 10015);
        c.due("most loan", x.says(1, 2, 0, 9999, 16, 9, 99999), 100008);
    }

    private static void month() {
        MonsoonTrade x = new MonsoonTrade();
        Check.text(x, "part month;food 0;loan 0;");
        c.due("day 0", x.says(1, 0, 0, 0, 0, 0, 0), 0);
        x.days(29);
        c.due("day 29", x.says(1, 0, 0, 0, 0, 0, 0), 0);
        x.days(1);
        c.due("day 30", x.says(1, 0, 0, 0, 0, 0, 0), 1);
        x.days(329);
        c.due("day 359", x.says(1, 0, 0, 0, 0, 0, 0), 11);
        x.days(1);
        c.due("day 360", x.says(1, 0, 0, 0, 0, 0, 0), 0);
    }

    private static void force() {
        MonsoonTrade x = new MonsoonTrade();
        c.due("text 1", x.force(1), -2);
        c.due("text -1", x.force(-1), -2);
        Check.text(x, "part 1;food 1;loan 1;");
        Check.text(x, "part 2;food 2;loan 2;");
        c.due("rule", x.force(2), 0);
        c.due("rule", x.force(1), 2);
        c.due("rule", x.force(1), 1);
        c.due("count", x.count(6), 1);
    }

    private static void fullOfTexts() {
        MonsoonTrade x = new MonsoonTrade();
        for (int i = 1; i < 6; i++) {
            c.due("text", Check.text(x, "part " + i + ";food 1;loan 1;"), i);
        }
        Check.feed(x, "part !");
        c.due("full", x.text(), -4);
        c.due("the tape stays", x.count(4), 6);
        for (int i = 1; i < 6; i++) {
            c.due("says", x.says(i, 0, 0, 0, 0, 0, 0), i);
        }
    }

    // ---- random texts, with what they come to

    private static final int[] SET = {-4321, 17, 6, 8, 1234, 0};
    private static final String[] NAMES = {"gain", "days", "men", "parts", "owed", "month"};

    private static final class Made {
        private final StringBuilder text = new StringBuilder();
        private final Random r;

        Made(int seed) {
            r = new Random(seed);
        }

        private void put(String token) {
            int at = text.length();
            boolean apart = at > 0 && Character.isLetterOrDigit(text.charAt(at - 1)) && Character.isLetterOrDigit(token.charAt(0));
            if (apart || r.nextInt(4) == 0) {
                text.append(r.nextInt(5) == 0 ? '\n' : ' ');
            }
            text.append(token);
        }

        int or(int free) {
            int value = and(free);
            while (r.nextInt(6) == 0) {
                put("or");
                int right = and(free);
                value = value != 0 | right != 0 ? 1 : 0;
            }
            return value;
        }

        int and(int free) {
            int value = not(free);
            while (r.nextInt(6) == 0) {
                put("and");
                int right = not(free);
                value = value != 0 & right != 0 ? 1 : 0;
            }
            return value;
        }

        int not(int free) {
            if (free > 0 && r.nextInt(6) == 0) {
                put("not");
                return not(free - 1) == 0 ? 1 : 0;
            }
            int value = sum(free);
            int sign = r.nextInt(8);
            if (sign == 0) {
                put("<");
                return value < sum(free) ? 1 : 0;
            }
            if (sign == 1) {
                put("=");
                return value == sum(free) ? 1 : 0;
            }
            return value;
        }

        int sum(int free) {
            int value = term(free);
            while (r.nextInt(4) == 0) {
                boolean plus = r.nextBoolean();
                put(plus ? "+" : "-");
                int right = term(free);
                value = plus ? value + right : value - right;
            }
            return value;
        }

        int term(int free) {
            int value = one(free);
            while (r.nextInt(4) == 0) {
                put("*");
                value *= one(free);
            }
            return value;
        }

        int one(int free) {
            int sort = r.nextInt(free > 0 ? 6 : 4);
            if (sort < 2) {
                int number = r.nextInt(r.nextBoolean() ? 3 : 10000);
                put(Integer.toString(number));
                return number;
            }
            if (sort < 4) {
                int name = r.nextInt(6);
                put(NAMES[name]);
                return SET[name];
            }
            if (sort == 4) {
                put("-");
                return -one(free - 1);
            }
            put("(");
            int value = or(free - 1);
            put(")");
            return value;
        }

        int part(String key) {
            put(key);
            int value = or(5);
            put(";");
            return value;
        }
    }

    private static void randomText(int seed) {
        Made made = new Made(seed);
        int[] due = {made.part("part"), made.part("food"), made.part("loan")};
        String text = made.text.toString();
        if (text.length() > 160) {
            return;
        }
        MonsoonTrade x = new MonsoonTrade();
        c.due("text " + text, Check.text(x, text), 1);
        for (int part = 0; part < 3; part++) {
            c.due("part " + part + " of " + text, x.says(1, part, SET[0], SET[1], SET[2], SET[3], SET[4]), due[part]);
        }
    }

    /** Up to a FAULT's place a text could have gone on: cut off there it ends too early, or is whole. */
    private static void brokenText(int seed) {
        Made made = new Made(seed);
        made.part("part");
        made.part("food");
        made.part("loan");
        StringBuilder text = made.text;
        if (text.length() > 160) {
            text.setLength(160);
        }
        Random r = new Random(seed);
        String signs = "();+-*<= 7zgo!";
        for (int i = r.nextInt(3); i >= 0; i--) {
            text.setCharAt(r.nextInt(text.length()), signs.charAt(r.nextInt(signs.length())));
        }
        int answer = textOf(text.toString());
        if (answer <= -100) {
            int place = -100 - answer;
            c.holds("place of a fault", place <= text.length());
            int cut = textOf(text.substring(0, place));
            c.holds("cut at its fault: " + text + " " + answer + " " + cut, cut == answer || cut == 1);
        } else {
            c.due("text " + text, answer, 1);
        }
    }
}
