import java.util.Random;

/** Promise 16: what dhows and ports have heard, by told runs and against a plain model. */
public final class NewsTest {
    private static final Check c = new Check("NewsTest");

    public static void main(String[] args) {
        wrongNumbers();
        ofItself();
        sameDayIsNotLater();
        oneAfterTheOther();
        for (int seed = 0; seed < 900; seed++) {
            againstModel(seed);
        }
        c.finish();
    }

    private static void wrongNumbers() {
        MonsoonTrade x = new MonsoonTrade();
        x.port(0, 0);
        x.port(4, 0);
        x.dhow(0, 9, 99);
        c.due("who -1", x.heard(-1, 0, 0, 0), -2);
        c.due("who 2", x.heard(2, 0, 0, 0), -2);
        c.due("dhow 1", x.heard(0, 1, 0, 0), -2);
        c.due("dhow -1", x.heard(0, -1, 0, 0), -2);
        c.due("of port 2", x.heard(0, 0, 2, 0), -2);
        c.due("of port -1", x.heard(0, 0, -1, 0), -2);
        c.due("port 2", x.heard(1, 2, 0, 0), -2);
        c.due("port -1", x.heard(1, -1, 0, 0), -2);
        c.due("what -2", x.heard(1, 0, 0, -2), -2);
        c.due("what 4", x.heard(1, 0, 0, 4), -2);
        c.due("none", x.heard(0, 0, 0, 3), -1);
        c.due("none", x.heard(1, 0, 1, 3), -1);
        x.sail(0, 1);
        c.due("has left with it", x.heard(0, 0, 0, -1), 0);
        x.lose(0);
        c.due("lost", x.heard(0, 0, 0, -1), -1);
        c.due("lost", x.heard(0, 0, 0, 0), -1);
        c.due("lost, but bad", x.heard(0, 0, 0, 4), -2);
    }

    private static void ofItself() {
        MonsoonTrade x = new MonsoonTrade();
        x.port(0, 0);
        c.due("its day", x.heard(1, 0, 0, -1), 0);
        x.days(7);
        x.wants(0, 2, 33, 1);
        c.due("its day", x.heard(1, 0, 0, -1), 7);
        c.due("its price", x.heard(1, 0, 0, 2), 33);
    }

    private static void sameDayIsNotLater() {
        MonsoonTrade x = new MonsoonTrade();
        x.port(0, 0);
        x.port(4, 0);
        x.dhow(0, 9, 99);
        x.sail(0, 1);
        x.days(2);
        c.due("came", x.heard(0, 0, 1, 0), 10);
        x.wants(1, 0, 50, 0);
        c.due("not told yet", x.heard(0, 0, 1, 0), 10);
        x.sail(0, 0);
        c.due("left on the same day", x.heard(0, 0, 1, 0), 10);
        x.days(2);
        x.wants(0, 0, 7, 0);
        c.due("the other port has it", x.heard(1, 0, 1, 0), 10);
        x.days(1);
        x.sail(0, 1);
        c.due("left on a later day", x.heard(0, 0, 0, 0), 7);
        c.due("of that day", x.heard(0, 0, 0, -1), 5);
    }

    private static void oneAfterTheOther() {
        MonsoonTrade x = new MonsoonTrade();
        x.port(0, 0);
        x.port(4, 0);
        x.port(8, 0);
        x.dhow(0, 9, 99);
        x.dhow(2, 9, 99);
        x.sail(0, 1);
        x.sail(1, 1);
        x.days(2);
        c.due("0 came ahead of 1", x.heard(0, 0, 2, -1), -1);
        c.due("1 has what 0 brought", x.heard(0, 1, 0, -1), 0);
        c.due("the port has both", x.heard(1, 1, 0, -1) + x.heard(1, 1, 2, -1), 0);
    }

    /** Words as rows (day, then prices), of ports 0 .. 4 and dhows 5 .. 7; compared once, to keep to 512 calls. */
    private static void againstModel(int seed) {
        Random r = new Random(seed);
        MonsoonTrade x = new MonsoonTrade();
        int[][][] words = new int[8][5][];
        for (int p = 0; p < 5; p++) {
            x.port(r.nextInt(20), r.nextInt(20));
        }
        for (int d = 0; d < 3; d++) {
            x.dhow(r.nextInt(5), 50, 3000);
        }
        for (int i = 0; i < 12; i++) {
            x.wind(i, r.nextInt(5) - 2);
        }
        int steps = r.nextInt(30);
        for (int step = 0; step < steps; step++) {
            int d = r.nextInt(3);
            switch (r.nextInt(5)) {
                case 0: x.wants(r.nextInt(5), r.nextInt(4), 1 + r.nextInt(99), r.nextInt(10)); break;
                case 1: x.buy(d, r.nextInt(4), 1 + r.nextInt(20)); break;
                case 2: x.sell(d, r.nextInt(4), 1 + r.nextInt(10)); break;
                case 3: leave(x, words, d, r.nextInt(5)); break;
                default: pass(x, words); break;
            }
        }
        compare(x, words);
    }

    private static void leave(MonsoonTrade x, int[][][] words, int d, int to) {
        int from = x.told(d, 0);
        if (x.sail(d, to) > 0) {
            exchange(x, words, d, from);
        }
    }

    private static void pass(MonsoonTrade x, int[][][] words) {
        boolean[] atSea = new boolean[3];
        for (int d = 0; d < 3; d++) {
            atSea[d] = x.told(d, 1) != -1;
        }
        x.days(1);
        for (int d = 0; d < 3; d++) {
            if (atSea[d] && x.told(d, 1) == -1) {
                exchange(x, words, d, x.told(d, 0));
            }
        }
    }

    private static void exchange(MonsoonTrade x, int[][][] words, int d, int port) {
        words[port][port] = own(x, port);
        for (int q = 0; q < 5; q++) {
            int[] a = words[5 + d][q];
            int[] b = words[port][q];
            if (b != null && (a == null || b[0] > a[0])) {
                words[5 + d][q] = b;
            }
            if (a != null && (b == null || a[0] > b[0])) {
                words[port][q] = a;
            }
        }
    }

    private static int[] own(MonsoonTrade x, int port) {
        return new int[] {x.count(5), x.price(port, 0), x.price(port, 1), x.price(port, 2), x.price(port, 3)};
    }

    private static void compare(MonsoonTrade x, int[][][] words) {
        for (int n = 0; n < 8; n++) {
            for (int q = 0; q < 5; q++) {
                int[] word = n == q ? own(x, q) : words[n][q];
                for (int what = -1; what < 4; what++) {
                    int got = n < 5 ? x.heard(1, n, q, what) : x.heard(0, n - 5, q, what);
                    c.due("heard " + n + " of " + q + " " + what, got, word == null ? -1 : word[what + 1]);
                }
            }
        }
    }
}
