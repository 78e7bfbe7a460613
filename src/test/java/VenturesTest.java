import java.util.Random;

/** Promises 17 to 21: ventures, and how a voyage's end parts what there is. */
public final class VenturesTest {
    private static final Check c = new Check("VenturesTest");

    public static void main(String[] args) {
        venture();
        purse();
        ventureTold();
        on();
        onOfEveryKind();
        lossEndsTheVoyage();
        lossEndsAllButLoans();
        begin();
        end();
        endWithLittle();
        saleAheadOfLoan();
        forcedRule();
        sixteen();
        for (int seed = 0; seed < 400; seed++) {
            againstWords(seed);
        }
        c.finish();
    }

    private static MonsoonTrade withDhow(int purse) {
        MonsoonTrade x = new MonsoonTrade();
        x.port(0, 0);
        x.port(0, 8);
        x.dhow(0, 50, purse);
        return x;
    }

    private static void venture() {
        MonsoonTrade x = withDhow(500);
        c.due("kind -1", x.venture(-1, 0, 1, 1), -2);
        c.due("kind 6", x.venture(6, 0, 1, 1), -2);
        c.due("dhow -1", x.venture(0, -1, 1, 1), -2);
        c.due("dhow 1", x.venture(0, 1, 1, 1), -2);
        c.due("amount 0", x.venture(0, 0, 0, 1), -2);
        c.due("amount 10000", x.venture(0, 0, 10000, 1), -2);
        c.due("parts 0", x.venture(0, 0, 1, 0), -2);
        c.due("parts 10", x.venture(0, 0, 1, 10), -2);
        c.due("purse lacks", x.venture(2, 0, 501, 1), -3);
        c.due("all of the purse", x.venture(2, 0, 500, 1), 0);
        x.sail(0, 1);
        c.due("at sea", x.venture(1, 0, 1, 1), -3);
        c.due("at sea, bad", x.venture(1, 0, 0, 1), -2);
        x.days(4);
        x.begin(0);
        for (int kind = 0; kind < 6; kind++) {
            if (kind != 1) {
                c.due("voyage began: kind " + kind, x.venture(kind, 0, 1, 1), -3);
            }
        }
        for (int i = 1; i < 16; i++) {
            c.due("share " + i, x.venture(1, 0, 9999, 9), i);
        }
        c.due("full", x.venture(1, 0, 1, 1), -4);
        c.due("state ahead of full", x.venture(0, 0, 1, 1), -3);
        c.due("bad ahead of all", x.venture(0, 0, 1, 10), -2);
        c.due("ventures", x.count(2), 16);
    }

    private static void purse() {
        int[] brings = {100, 0, -100, 100, 100, 100};
        int[] owed = {0, 0, 105, 0, 0, 115};
        for (int kind = 0; kind < 6; kind++) {
            MonsoonTrade x = withDhow(200);
            x.venture(kind, 0, 100, 1);
            c.due("purse with kind " + kind, x.told(0, 3), 200 + brings[kind]);
            x.venture(kind, 0, 105, 1);
            if (kind != 2) {
                c.due("owed of kind " + kind, x.ventureTold(1, 4), owed[kind]);
            }
        }
        MonsoonTrade x = withDhow(200);
        x.venture(5, 0, 9, 1);
        c.due("a tenth of 9 is cut", x.ventureTold(0, 4), 9);
    }

    private static void ventureTold() {
        MonsoonTrade x = withDhow(500);
        x.venture(2, 0, 77, 5);
        int[] told = {2, 0, 77, 5, 77, 0, 0};
        for (int what = 0; what < 7; what++) {
            c.due("told " + what, x.ventureTold(0, what), told[what]);
        }
        c.due("what -1", x.ventureTold(0, -1), -2);
        c.due("what 7", x.ventureTold(0, 7), -2);
        c.due("venture -1", x.ventureTold(-1, 0), -2);
        c.due("venture 1", x.ventureTold(1, 0), -2);
    }

    private static void on() {
        MonsoonTrade x = withDhow(500);
        x.dhow(1, 9, 9);
        x.venture(2, 0, 77, 5);
        x.venture(3, 0, 77, 5);
        x.venture(5, 0, 77, 5);
        c.due("does not wait", x.on(0, 1), -3);
        c.due("no loan", x.on(1, 1), -3);
        c.due("a bottom is no loan", x.on(2, 1), -3);
        c.due("venture 3", x.on(3, 1), -2);
        c.due("venture -1", x.on(-1, 1), -2);
        c.due("dhow 2", x.on(0, 2), -2);
        c.due("dhow -1", x.on(0, -1), -2);
        x.sail(0, 1);
        x.lose(0);
        c.due("waits", x.ventureTold(0, 1), -1);
        c.due("on a lost one", x.on(0, 0), -2);
        c.due("over, on a lost one", x.on(1, 0), -2);
        x.sail(1, 0);
        c.due("on one at sea", x.on(0, 1), 1);
        c.due("its dhow", x.ventureTold(0, 1), 1);
        c.due("waits no more", x.on(0, 1), -3);
        x.lose(1);
        c.due("waits again", x.ventureTold(0, 1), -1);
        c.due("is not over", x.ventureTold(0, 5), 0);
        c.due("owed as it was", x.ventureTold(0, 4), 77);
    }

    private static void onOfEveryKind() {
        MonsoonTrade x = withDhow(500);
        x.dhow(0, 9, 9);
        for (int kind = 0; kind < 6; kind++) {
            x.venture(kind, 0, 50, 1);
        }
        for (int kind = 0; kind < 6; kind++) {
            c.due("does not wait, of kind " + kind, x.on(kind, 1), -3);
            c.due("on its own dhow, of kind " + kind, x.on(kind, 0), -3);
            c.due("on no dhow, of kind " + kind, x.on(kind, 2), -2);
        }
        x.sail(0, 1);
        x.lose(0);
        for (int kind = 0; kind < 6; kind++) {
            c.due("on a lost dhow, of kind " + kind, x.on(kind, 0), -2);
            c.due("went down, of kind " + kind, x.on(kind, 1), kind == 2 ? 1 : -3);
            c.due("its dhow, of kind " + kind, x.ventureTold(kind, 1), kind == 2 ? 1 : 0);
        }
    }

    private static void lossEndsTheVoyage() {
        MonsoonTrade x = withDhow(500);
        x.begin(0);
        x.sail(0, 1);
        c.due("stake at sea", x.told(0, 5), 500);
        x.lose(0);
        c.due("stake of a lost dhow", x.told(0, 5), -1);
        c.due("begin of a lost dhow", x.begin(0), -3);
        c.due("end of a lost dhow", x.end(0), -3);
        c.due("share of a lost dhow", x.venture(1, 0, 1, 1), -3);
    }

    private static void lossEndsAllButLoans() {
        MonsoonTrade x = withDhow(500);
        x.dhow(0, 9, 9);
        for (int kind = 0; kind < 6; kind++) {
            x.venture(kind, 0, 50, 1);
        }
        x.venture(0, 1, 50, 1);
        x.sail(0, 1);
        x.lose(0);
        for (int kind = 0; kind < 6; kind++) {
            c.due("over of kind " + kind, x.ventureTold(kind, 5), kind == 2 ? 0 : 1);
            c.due("dhow of kind " + kind, x.ventureTold(kind, 1), kind == 2 ? -1 : 0);
            c.due("got of kind " + kind, x.ventureTold(kind, 6), 0);
        }
        c.due("another dhow's", x.ventureTold(6, 5), 0);
        c.due("not over", x.count(8), 2);
    }

    private static void begin() {
        MonsoonTrade x = withDhow(500);
        c.due("dhow -1", x.begin(-1), -2);
        c.due("dhow 1", x.begin(1), -2);
        c.due("end without begin", x.end(0), -3);
        c.due("end of dhow 1", x.end(1), -2);
        c.due("end of dhow -1", x.end(-1), -2);
        c.due("stake", x.begin(0), 500);
        c.due("began", x.begin(0), -3);
        x.buy(0, 0, 5);
        c.due("stake stays", x.told(0, 5), 500);
        x.sail(0, 1);
        c.due("begin at sea", x.begin(0), -3);
        c.due("end at sea", x.end(0), -3);
        x.days(4);
        c.due("end", x.end(0), 445);
        c.due("ended", x.told(0, 5), -1);
        c.due("begin anew", x.begin(0), 445);
    }

    private static void end() {
        MonsoonTrade x = withDhow(1000);
        x.venture(1, 0, 1, 3);
        x.venture(2, 0, 100, 2);
        x.venture(3, 0, 100, 5);
        x.venture(0, 0, 100, 1);
        x.begin(0);
        x.buy(0, 0, 50);
        x.sail(0, 1);
        x.wants(1, 0, 30, 0);
        x.days(5);
        x.sell(0, 0, 50);
        // gain 950; food 5 days of 2 men; weights 3, 2, half of 5, 1: 8
        c.due("end", x.end(0), 2050 - 10 - 352 - (235 - 100) - 235 - 117);
        c.due("share got", x.ventureTold(0, 6), 352);
        c.due("loan got", x.ventureTold(1, 6), 135);
        c.due("trust got", x.ventureTold(2, 6), 235);
        c.due("venture got", x.ventureTold(3, 6), 117);
        c.due("share stays", x.ventureTold(0, 5), 0);
        c.due("loan that has none owed is over", x.ventureTold(1, 5), 1);
        c.due("trust is over", x.ventureTold(2, 5), 1);
        c.due("venture is over", x.ventureTold(3, 5), 1);
        c.due("an over one's dhow", x.ventureTold(1, 1), 0);
        c.due("an over loan does not wait", x.on(1, 0), -3);
    }

    private static void endWithLittle() {
        MonsoonTrade x = withDhow(20);
        x.venture(1, 0, 1, 3);
        x.venture(5, 0, 100, 1);
        x.venture(5, 0, 100, 1);
        x.venture(4, 0, 30, 1);
        x.begin(0);
        x.buy(0, 0, 10);
        x.days(20);
        // 250 less 110; food 20: 120; the first bottom 110, the second 10, the sale nothing
        c.due("end", x.end(0), 0);
        c.due("first bottom", x.ventureTold(1, 6), 110);
        c.due("second bottom", x.ventureTold(2, 6), 10);
        c.due("bottoms are over", x.ventureTold(1, 5) + x.ventureTold(2, 5), 2);
        c.due("sale", x.ventureTold(3, 6), 0);
        c.due("sale is over", x.ventureTold(3, 5), 1);
        x.begin(0);
        x.days(1);
        c.due("food of an empty purse", x.end(0), 0);
    }

    private static void saleAheadOfLoan() {
        MonsoonTrade x = withDhow(100);
        x.venture(4, 0, 120, 1);
        x.venture(2, 0, 100, 1);
        x.buy(0, 0, 10);
        x.begin(0);
        x.sail(0, 1);
        x.wants(1, 0, 13, 0);
        x.days(4);
        x.sell(0, 0, 10);
        // purse 140, food 4, rest 126; the sale takes 120, the loan's 126 less 100 are more than the 16 left
        c.due("end", x.end(0), 0);
        c.due("sale", x.ventureTold(0, 6), 120);
        c.due("loan is paid back", x.ventureTold(1, 4), 0);
        c.due("what is there at most", x.ventureTold(1, 6), 16);
    }

    private static void forcedRule() {
        MonsoonTrade x = withDhow(1000);
        c.due("text", Check.text(x, "part gain*0+0-parts; food 0-5; loan 0-1;"), 1);
        c.due("text", Check.text(x, "part month=2 and owed; food gain+parts+owed; loan owed - 90 + parts;"), 2);
        x.venture(2, 0, 100, 9);
        x.venture(1, 0, 1, 9);
        x.force(1);
        x.begin(0);
        x.buy(0, 0, 1);
        x.wants(0, 0, 50, 0);
        x.sell(0, 0, 1);
        c.due("nothing below 0 is paid, W is 0", x.end(0), 939);
        x.force(2);
        x.days(60);
        x.begin(0);
        x.buy(0, 0, 10);
        x.wants(0, 0, 99, 0);
        x.sell(0, 0, 10);
        // gain 480 is eaten
        c.due("food", x.end(0), 939);
        c.due("loan 0 got nothing", x.ventureTold(0, 6) + 1000 * x.ventureTold(0, 4), 100000);
        c.due("text", Check.text(x, "part month=2 and owed; food 0; loan owed - 90 + parts;"), 3);
        x.force(3);
        x.begin(0);
        x.wants(0, 0, 9, 0);
        x.buy(0, 0, 10);
        x.wants(0, 0, 99, 0);
        x.sell(0, 0, 10);
        // gain 890, all of it the loan's: 100 - 90 + 9 go back
        c.due("end", x.end(0), 939 + 19);
        c.due("loan got", x.ventureTold(0, 6), 871);
        c.due("loan owes", x.ventureTold(0, 4), 81);
        c.due("share got", x.ventureTold(1, 6), 0);
    }

    private static void sixteen() {
        for (int way = 0; way < 2; way++) {
            MonsoonTrade x = withDhow(100);
            for (int i = 0; i < 16; i++) {
                x.venture(i == 15 ? 0 : 1, 0, 10, 1);
            }
            x.begin(0);
            x.sail(0, 1);
            if (way == 0) {
                x.lose(0);
                c.due("all are over", x.count(8), 0);
            } else {
                x.days(4);
                c.due("food of 15 men", x.end(0), 50);
                c.due("the last is over", x.count(8), 15);
            }
        }
    }

    private static final String[] RULES = {
        "part parts*gain; food days*men; loan owed;",
        "part 9999*9999*parts; food 0-gain; loan gain;",
        "part parts - 3; food men; loan 10*days;",
        "part owed or parts<4; food month; loan parts*5;",
        "part men*parts + owed; food 30; loan not owed<20;",
    };

    /** Ends random voyages, and reckons by what may be asked ahead of it what is due. */
    private static void againstWords(int seed) {
        Random r = new Random(seed);
        MonsoonTrade x = withDhow(r.nextInt(900));
        Check.text(x, RULES[r.nextInt(RULES.length)]);
        int text = r.nextInt(2);
        x.force(text);
        int all = 1 + r.nextInt(12);
        for (int i = 0; i < all; i++) {
            x.venture(r.nextInt(6), 0, 1 + r.nextInt(150), 1 + r.nextInt(9));
        }
        int voyages = all > 8 ? 2 : 3;
        for (int voyage = 0; voyage < voyages; voyage++) {
            int before = x.count(5);
            boolean early = r.nextBoolean();
            x.wants(x.told(0, 0), 0, 10, 0);
            if (early) {
                x.buy(0, 0, Math.min(50, Math.max(1, x.told(0, 3) / 11)));
            }
            x.begin(0);
            if (!early) {
                x.buy(0, 0, Math.min(50, Math.max(1, x.told(0, 3) / 11)));
            }
            x.sail(0, 1 - x.told(0, 0));
            x.days(4 + r.nextInt(50));
            x.wants(x.told(0, 0), 0, 1 + r.nextInt(60), 0);
            x.sell(0, 0, Math.max(1, x.good(0, 0)));
            expectEnd(x, text, x.count(5) - before);
        }
    }

    private static void expectEnd(MonsoonTrade x, int text, int days) {
        int n = x.count(2);
        long purse = x.told(0, 3);
        long stake = x.told(0, 5);
        int gain = (int) (purse - stake);
        int men = 0;
        boolean[] live = new boolean[n];
        long[] got = new long[n];
        long[] owed = new long[n];
        for (int v = 0; v < n; v++) {
            int kind = x.ventureTold(v, 0);
            live[v] = x.ventureTold(v, 5) == 0;
            got[v] = x.ventureTold(v, 6);
            owed[v] = x.ventureTold(v, 4);
            men += live[v] && (kind == 1 || kind == 2) ? 1 : 0;
        }
        purse -= Math.max(0, Math.min(purse, x.says(text, 1, gain, days, men, 0, 0)));
        for (int v = 0; v < n; v++) {
            if (live[v] && x.ventureTold(v, 0) == 5) {
                long pay = Math.min(purse, owed[v]);
                purse -= pay;
                got[v] += pay;
            }
        }
        long rest = Math.max(0, purse - stake);
        long[] weight = new long[n];
        long w = 0;
        for (int v = 0; v < n; v++) {
            int kind = x.ventureTold(v, 0);
            if (live[v] && kind < 4) {
                long part = x.says(text, 0, gain, days, men, x.ventureTold(v, 3), (int) owed[v]);
                weight[v] = Math.max(0, part) / (kind == 3 ? 2 : 1);
                w += weight[v];
            }
        }
        for (int v = 0; v < n; v++) {
            int kind = x.ventureTold(v, 0);
            if (!live[v] || kind == 5) {
                continue;
            }
            long due = kind == 4 ? x.ventureTold(v, 2) : w == 0 ? 0 : rest * weight[v] / w;
            if (kind == 2) {
                long back = x.says(text, 2, gain, days, men, x.ventureTold(v, 3), (int) owed[v]);
                back = Math.max(0, Math.min(back, Math.min(due, owed[v])));
                owed[v] -= back;
                due -= back;
            }
            due = Math.min(due, purse);
            purse -= due;
            got[v] += due;
        }
        c.due("end", x.end(0), purse);
        c.due("purse", x.told(0, 3), purse);
        for (int v = 0; v < n; v++) {
            int kind = x.ventureTold(v, 0);
            boolean stays = live[v] && (kind == 1 || kind == 2 && owed[v] > 0);
            c.due("got of " + v, x.ventureTold(v, 6), got[v]);
            c.due("owed of " + v, x.ventureTold(v, 4), owed[v]);
            c.due("over of " + v, x.ventureTold(v, 5), stays ? 0 : 1);
        }
    }
}
