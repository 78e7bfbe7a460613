import java.util.Random;

/** Promises 26 and 27: orders, by told runs and against trying every order. */
public final class OrdersTest {
    private static final Check c = new Check("OrdersTest");
    private static final long NO = MonsoonTrade.NO;

    public static void main(String[] args) {
        wrongNumbers();
        bounds();
        ties();
        goodsAboard();
        newsOfTheSameDay();
        nothingChanges();
        for (int seed = 0; seed < 500; seed++) {
            againstAll(seed);
        }
        c.finish();
    }

    /** Two ports that know of each other, with the dhow in port 0 on day 8. */
    private static MonsoonTrade twoPorts(int purse) {
        MonsoonTrade x = new MonsoonTrade();
        x.port(0, 0);
        x.port(0, 8);
        x.dhow(0, 10, purse);
        x.sail(0, 1);
        x.days(4);
        x.sail(0, 0);
        x.days(4);
        return x;
    }

    private static void wrongNumbers() {
        MonsoonTrade x = twoPorts(100);
        c.due("order", x.order(0, 1, 9999, 0), 100);
        c.due("dhow -1", x.order(-1, 1, 9999, 0), NO);
        c.due("dhow 1", x.order(1, 1, 9999, 0), NO);
        c.due("n 0", x.order(0, 0, 9999, 0), NO);
        c.due("n 4", x.order(0, 4, 9999, 0), NO);
        c.due("last -1", x.order(0, 1, -1, 0), NO);
        c.due("last 10000", x.order(0, 1, 10000, 0), NO);
        c.due("what -1", x.order(0, 1, 9999, -1), NO);
        c.due("what 3", x.order(0, 1, 9999, 3), NO);
        c.due("leg: dhow -1", x.leg(-1, 1, 9999, 0), -2);
        c.due("leg: dhow 1", x.leg(1, 1, 9999, 0), -2);
        c.due("leg: n 0", x.leg(0, 0, 9999, 0), -2);
        c.due("leg: n 4", x.leg(0, 4, 9999, 0), -2);
        c.due("leg: last -1", x.leg(0, 1, -1, 0), -2);
        c.due("leg: last 10000", x.leg(0, 1, 10000, 0), -2);
        c.due("leg: last 0", x.leg(0, 1, 0, 0), -1);
        c.due("leg -1", x.leg(0, 1, 9999, -1), -1);
        c.due("leg 1 of 1", x.leg(0, 3, 9999, 1), -1);
        c.due("leg 3", x.leg(0, 3, 9999, 3), -1);
        x.sail(0, 1);
        c.due("at sea", x.order(0, 1, 9999, 0), NO);
        c.due("leg at sea", x.leg(0, 1, 9999, 0), -1);
    }

    private static void bounds() {
        MonsoonTrade x = twoPorts(110);
        c.due("a day too late", x.order(0, 3, 11, 0), NO);
        c.due("leg, a day too late", x.leg(0, 3, 11, 0), -1);
        c.due("just on it", x.order(0, 3, 12, 2), 12);
        MonsoonTrade y = new MonsoonTrade();
        y.port(0, 0);
        y.port(0, 8);
        y.dhow(0, 10, 110);
        c.due("no word of any other", y.order(0, 3, 9999, 0), NO);
        c.due("leg, no word of any other", y.leg(0, 3, 9999, 0), -1);
        c.due("the port's word is enough", wordInPortAlone().order(0, 1, 9999, 0), 110);
    }

    private static MonsoonTrade wordInPortAlone() {
        MonsoonTrade x = new MonsoonTrade();
        x.port(0, 0);
        x.port(0, 8);
        x.dhow(0, 10, 110);
        x.dhow(1, 10, 110);
        x.sail(1, 0);
        x.days(4);
        return x;
    }

    private static void ties() {
        MonsoonTrade x = twoPorts(110);
        c.due("fewest legs", x.order(0, 3, 9999, 1), 1);
        c.due("none is bought where all lose", x.leg(0, 3, 9999, 0), 41);
        x = new MonsoonTrade();
        x.port(0, 0);
        x.port(0, 8);
        x.dhow(0, 10, 110);
        x.wants(1, 2, 11, 0);
        x.wants(1, 1, 11, 0);
        x.sail(0, 1);
        x.days(4);
        x.sail(0, 0);
        x.days(4);
        c.due("like goods: the lesser one, ahead of none", x.leg(0, 1, 9999, 0), 11);
        c.due("its worth", x.order(0, 1, 9999, 0), 110);
        c.due("0 coins buy 0 of the least good", twoPorts(0).leg(0, 1, 9999, 0), 1);
        c.due("as many as coins buy", twoPorts(10).leg(0, 1, 9999, 0), 1);
        c.due("one would be bought, and lose", twoPorts(11).leg(0, 1, 9999, 0), 41);
    }

    private static void goodsAboard() {
        MonsoonTrade x = twoPorts(110);
        x.buy(0, 1, 10);
        x.wants(0, 1, 7, 0);
        c.due("sold at the told price of the same day", x.order(0, 1, 9999, 0), 100);
        x.days(1);
        c.due("sold at today's price, a day later", x.order(0, 1, 9999, 0), 70 + 8 * 2);
        c.due("bought with that", x.leg(0, 1, 9999, 0), 11);
    }

    private static void newsOfTheSameDay() {
        MonsoonTrade x = twoPorts(1000);
        x.wants(0, 3, 1, 0);
        c.due("what it was told today stands", x.order(0, 1, 9999, 0), 1000);
        x.days(1);
        c.due("the day after it is new", x.order(0, 1, 9999, 0), 1080);
        c.due("leg", x.leg(0, 1, 9999, 0), 31);
        c.due("legs", x.order(0, 3, 9999, 1), 3);
        c.due("there, back with none, there", x.order(0, 3, 9999, 0), 1160);
        c.due("leg 1", x.leg(0, 3, 9999, 1), 40);
        c.due("leg 2", x.leg(0, 3, 9999, 2), 31);
        c.due("comes", x.order(0, 3, 9999, 2), 9 + 12);
    }

    private static void nothingChanges() {
        for (int aspect = 0; aspect < Tale.ASPECTS; aspect++) {
            MonsoonTrade x = wordInPortAlone();
            x.order(0, 3, 9999, 0);
            x.leg(0, 3, 9999, 0);
            c.due("the dhow has not heard", x.heard(0, 0, 1, -1), -1);
            c.holds("nothing is changed", Tale.of(x, aspect).equals(Tale.of(wordInPortAlone(), aspect)));
        }
    }

    // ---- every order, tried one by one

    private static final class All {
        private final int[][] places;
        private final int[] winds;
        private final int last;
        private final int hold;
        private final int[][] word = new int[6][];
        private long worth = -1;
        private int legs;
        private int comes;
        private int[] best = new int[0];

        All(MonsoonTrade x, int[][] places, int[] winds, int dhow, int n, int last) {
            this.places = places;
            this.winds = winds;
            this.last = last;
            hold = x.told(dhow, 2);
            int port = x.told(dhow, 0);
            for (int p = 0; p < places.length; p++) {
                int heard = x.heard(0, dhow, p, -1);
                int heardInPort = x.heard(1, port, p, -1);
                boolean own = heard >= heardInPort;
                if (heard >= 0 || heardInPort >= 0) {
                    word[p] = new int[4];
                    for (int g = 0; g < 4; g++) {
                        word[p][g] = own ? x.heard(0, dhow, p, g) : x.heard(1, port, p, g);
                    }
                }
            }
            int coins = x.told(dhow, 3);
            for (int g = 0; g < 4; g++) {
                coins += x.good(dhow, g) * word[port][g];
            }
            go(port, x.count(5), coins, new int[n], 0);
        }

        private void go(int port, int day, int coins, int[] choices, int done) {
            if (done > 0 && better(coins, done, choices)) {
                worth = coins;
                legs = done;
                comes = day;
                best = choices.clone();
            }
            if (done == choices.length) {
                return;
            }
            for (int to = 0; to < places.length; to++) {
                int days = to == port || word[to] == null ? -1 : way(port, to, day);
                if (days == -1 || day + days > last) {
                    continue;
                }
                for (int g = 0; g <= 4; g++) {
                    int n = g == 4 ? 0 : Math.min(hold, coins / (word[port][g] + 1));
                    int left = g == 4 ? coins : coins - n * (word[port][g] + 1) + n * word[to][g];
                    choices[done] = 10 * g + to;
                    go(to, day + days, left, choices, done + 1);
                }
            }
        }

        private int way(int from, int to, int day) {
            int dx = places[to][0] - places[from][0];
            int dy = places[to][1] - places[from][1];
            int speed = 2 + Integer.signum(dx) * winds[day / 30 % 12];
            return speed == 0 ? -1 : Math.max(1, (int) Math.ceil((Math.abs(dx) + Math.abs(dy)) / (double) speed));
        }

        private boolean better(long coins, int done, int[] choices) {
            if (coins != worth) {
                return coins > worth;
            }
            if (done != legs) {
                return done < legs;
            }
            for (int i = 0; i < done; i++) {
                if (choices[i] != best[i]) {
                    return choices[i] < best[i];
                }
            }
            return false;
        }
    }

    private static void againstAll(int seed) {
        Random r = new Random(seed);
        MonsoonTrade x = new MonsoonTrade();
        int ports = 2 + r.nextInt(5);
        int span = r.nextBoolean() ? 10 : 90;
        int prices = r.nextBoolean() ? 4 : 60;
        int[][] places = new int[ports][];
        for (int p = 0; p < ports; p++) {
            places[p] = new int[] {r.nextInt(span), r.nextInt(span)};
            x.port(places[p][0], places[p][1]);
            for (int g = 0; g < 4; g++) {
                x.wants(p, g, 1 + r.nextInt(prices), r.nextInt(10));
            }
        }
        int[] winds = new int[12];
        for (int i = 0; i < 12; i++) {
            winds[i] = r.nextInt(5) - 2;
            x.wind(i, winds[i]);
        }
        for (int d = 0; d < 4; d++) {
            x.dhow(r.nextInt(ports), 1 + r.nextInt(99), r.nextInt(r.nextBoolean() ? 30 : 3000));
        }
        for (int step = 0; step < 50; step++) {
            int d = r.nextInt(4);
            x.buy(d, r.nextInt(4), 1 + r.nextInt(9));
            x.sell(d, r.nextInt(4), 1 + r.nextInt(9));
            x.sail(d, r.nextInt(ports));
            x.days(1 + r.nextInt(20));
        }
        for (int d = 0; d < 4; d++) {
            if (x.told(d, 1) != -1) {
                c.due("at sea", x.order(d, 1, 9999, 0), NO);
                continue;
            }
            int n = 1 + r.nextInt(3);
            int last = Math.min(9999, x.count(5) + r.nextInt(3 * span));
            compare(x, new All(x, places, winds, d, n, last), d, n, last);
        }
    }

    private static void compare(MonsoonTrade x, All all, int d, int n, int last) {
        boolean none = all.legs == 0;
        c.due("worth", x.order(d, n, last, 0), none ? NO : all.worth);
        c.due("legs", x.order(d, n, last, 1), none ? NO : all.legs);
        c.due("comes", x.order(d, n, last, 2), none ? NO : all.comes);
        for (int i = 0; i < 4; i++) {
            c.due("leg " + i, x.leg(d, n, last, i), i < all.legs ? all.best[i] : -1);
        }
    }
}
