/** Promises 8 to 15: dhows, what they buy and sell, and where they sail. */
public final class DhowsTest {
    private static final Check c = new Check("DhowsTest");

    public static void main(String[] args) {
        dhows();
        told();
        sell();
        buy();
        sail();
        days();
        lose();
        c.finish();
    }

    private static void dhows() {
        MonsoonTrade x = new MonsoonTrade();
        c.due("no port", x.dhow(0, 1, 0), -2);
        x.port(0, 0);
        c.due("port -1", x.dhow(-1, 1, 0), -2);
        c.due("hold 0", x.dhow(0, 0, 0), -2);
        c.due("hold 100", x.dhow(0, 100, 0), -2);
        c.due("purse -1", x.dhow(0, 1, -1), -2);
        c.due("purse 100000", x.dhow(0, 1, 100000), -2);
        c.due("least", x.dhow(0, 1, 0), 0);
        c.due("most", x.dhow(0, 99, 99999), 1);
        c.due("third", x.dhow(0, 9, 9), 2);
        c.due("fourth", x.dhow(0, 9, 9), 3);
        c.due("bad ahead of full", x.dhow(0, 9, -9), -2);
        c.due("full", x.dhow(0, 9, 9), -4);
        c.due("dhows", x.count(1), 4);
    }

    private static void told() {
        MonsoonTrade x = new MonsoonTrade();
        x.port(0, 0);
        x.port(8, 0);
        x.dhow(1, 7, 99);
        int[] inPort = {1, -1, 7, 99, 0, -1, 0};
        for (int what = 0; what < 7; what++) {
            c.due("told " + what, x.told(0, what), inPort[what]);
        }
        c.due("what -1", x.told(0, -1), -2);
        c.due("what 7", x.told(0, 7), -2);
        c.due("dhow -1", x.told(-1, 0), -2);
        c.due("dhow 1", x.told(1, 0), -2);
        x.buy(0, 2, 3);
        x.buy(0, 0, 2);
        x.begin(0);
        x.sail(0, 0);
        int[] atSea = {0, 4, 7, 44, 5, 44, 0};
        for (int what = 0; what < 7; what++) {
            c.due("at sea: told " + what, x.told(0, what), atSea[what]);
        }
        c.due("good 0", x.good(0, 0), 2);
        c.due("good 1", x.good(0, 1), 0);
        c.due("good 2", x.good(0, 2), 3);
        c.due("good -1", x.good(0, -1), -2);
        c.due("good 4", x.good(0, 4), -2);
        c.due("good of dhow 1", x.good(1, 0), -2);
        c.due("good of dhow -1", x.good(-1, 0), -2);
    }

    private static void sell() {
        MonsoonTrade x = new MonsoonTrade();
        x.port(0, 0);
        x.port(8, 0);
        x.dhow(0, 10, 110);
        c.due("dhow 1", x.sell(1, 0, 1), -2);
        c.due("good 4", x.sell(0, 4, 1), -2);
        c.due("n 0", x.sell(0, 0, 0), -2);
        c.due("has fewer", x.sell(0, 0, 1), -3);
        c.due("has far fewer", x.sell(0, 0, Integer.MAX_VALUE), -3);
        x.buy(0, 0, 10);
        x.wants(0, 0, 20, 9);
        c.due("has fewer", x.sell(0, 0, 11), -3);
        c.due("of another good", x.sell(0, 1, 1), -3);
        c.due("one price for each", x.sell(0, 0, 4), 80);
        c.due("price falls by 36 by 10", x.price(0, 0), 17);
        c.due("the rest", x.sell(0, 0, 5), 165);
        c.due("one is left", x.good(0, 0), 1);
        x.sail(0, 1);
        c.due("at sea", x.sell(0, 0, 1), -3);
        c.due("at sea and bad", x.sell(0, 0, -1), -2);
    }

    private static void buy() {
        MonsoonTrade x = new MonsoonTrade();
        x.port(0, 0);
        x.port(8, 0);
        x.dhow(0, 10, 110);
        c.due("n 0", x.buy(0, 0, 0), -2);
        c.due("n 100", x.buy(0, 0, 100), -2);
        c.due("n 99", x.buy(0, 0, 99), -3);
        c.due("dhow 1", x.buy(1, 0, 1), -2);
        c.due("dhow -1", x.buy(-1, 0, 1), -2);
        c.due("good -1", x.buy(0, -1, 1), -2);
        c.due("good 4", x.buy(0, 4, 1), -2);
        c.due("hold", x.buy(0, 0, 11), -3);
        x.wants(0, 1, 54, 0);
        c.due("purse to the last coin", x.buy(0, 1, 2), 0);
        c.due("purse", x.buy(0, 0, 1), -3);
        x.sell(0, 1, 2);
        c.due("the purse lacks one", x.wants(0, 2, 54, 0) + x.buy(0, 2, 2), 54 - 3);
        c.due("all of the hold", x.wants(0, 3, 1, 9) + x.buy(0, 3, 10), 1 + 88);
        c.due("hold of all goods together", x.buy(0, 0, 1), -3);
        x.wants(0, 3, 30, 9);
        x.sell(0, 3, 10);
        c.due("landed 10", x.price(0, 3), 21);
        c.due("22 each", x.buy(0, 3, 4), 388 - 88);
        c.due("landed 6: 54 by 10", x.price(0, 3), 25);
        c.due("26 each", x.buy(0, 3, 6), 300 - 156);
        c.due("landed 0", x.price(0, 3), 30);
        x.sail(0, 1);
        c.due("at sea", x.buy(0, 0, 1), -3);
    }

    private static void sail() {
        MonsoonTrade x = new MonsoonTrade();
        x.port(0, 0);
        x.port(9, 0);
        x.port(0, 50);
        x.dhow(0, 1, 0);
        c.due("dhow 1", x.sail(1, 0), -2);
        c.due("port 3", x.sail(0, 3), -2);
        c.due("port -1", x.sail(0, -1), -2);
        c.due("the port in which it is", x.sail(0, 0), -2);
        x.wind(0, -2);
        c.due("no way", x.sail(0, 1), -3);
        c.due("still in port", x.told(0, 1), -1);
        c.due("nothing heard", x.heard(0, 0, 0, -1), -1);
        c.due("across", x.sail(0, 2), 25);
        c.due("at sea", x.sail(0, 1), -3);
        c.due("at sea, to where it goes", x.sail(0, 2), -3);
        c.due("at sea, to none", x.sail(0, 3), -2);
        x.days(25);
        c.due("in", x.told(0, 0), 2);
        c.due("in", x.told(0, 1), -1);
        x.wind(0, 0);
        c.due("day counts on", x.sail(0, 0), 50);
        x.wind(0, 2);
        x.days(25);
        c.due("there as told", x.told(0, 1), -1);
        c.due("month 1 is calm", x.sail(0, 1), 55);
    }

    private static void days() {
        MonsoonTrade x = new MonsoonTrade();
        c.due("0", x.days(0), -2);
        c.due("-1", x.days(-1), -2);
        c.due("401", x.days(401), -2);
        c.due("1", x.days(1), 1);
        for (int i = 1; i <= 24; i++) {
            c.due("400", x.days(400), 1 + 400 * i);
        }
        c.due("398", x.days(397), 9998);
        c.due("bad ahead of full", x.days(401), -2);
        c.due("beyond", x.days(2), -4);
        x.port(0, 0);
        x.port(90, 90);
        x.dhow(0, 9, 9);
        c.due("comes too late", x.sail(0, 1), 10088);
        c.due("the last", x.days(1), 9999);
        c.due("no more", x.days(1), -4);
        c.due("the day", x.count(5), 9999);
        c.due("still at sea", x.told(0, 1), 10088);
    }

    private static void lose() {
        MonsoonTrade x = new MonsoonTrade();
        x.port(0, 0);
        x.port(8, 0);
        x.dhow(0, 7, 99);
        c.due("dhow 1", x.lose(1), -2);
        c.due("dhow -1", x.lose(-1), -2);
        c.due("in port", x.lose(0), -3);
        x.buy(0, 1, 3);
        x.sail(0, 1);
        c.due("at sea", x.lose(0), 1);
        c.due("lost", x.lose(0), -3);
        int[] lost = {-1, -1, 7, 0, 0, -1, 1};
        for (int what = 0; what < 7; what++) {
            c.due("told " + what, x.told(0, what), lost[what]);
        }
        c.due("good", x.good(0, 1), 0);
        x.days(10);
        c.due("comes nowhere", x.told(0, 0), -1);
        c.due("sell", x.sell(0, 1, 1), -3);
        c.due("buy", x.buy(0, 1, 1), -3);
        c.due("sail", x.sail(0, 1), -3);
        c.due("begin", x.begin(0), -3);
        c.due("end", x.end(0), -3);
        c.due("venture", x.venture(0, 0, 1, 1), -3);
        c.due("order", x.order(0, 1, 9999, 0), MonsoonTrade.NO);
        c.due("leg", x.leg(0, 1, 9999, 0), -1);
        c.due("lost dhows", x.count(7), 1);
    }
}
