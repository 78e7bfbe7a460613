/** Promises 2 to 5 and 7: ports, prices, winds and ways. */
public final class PortsTest {
    private static final Check c = new Check("PortsTest");

    public static void main(String[] args) {
        ports();
        wants();
        prices();
        winds();
        ways();
        waysOfAllWinds();
        c.finish();
    }

    private static void ports() {
        MonsoonTrade x = new MonsoonTrade();
        c.due("port x below", x.port(-1, 0), -2);
        c.due("port x above", x.port(100, 0), -2);
        c.due("port y below", x.port(0, -1), -2);
        c.due("port y above", x.port(0, 100), -2);
        c.due("no port came", x.count(0), 0);
        for (int i = 0; i < 6; i++) {
            c.due("port " + i, x.port(i == 0 ? 0 : 99, i == 0 ? 99 : 0), i);
        }
        c.due("seventh port", x.port(1, 1), -4);
        c.due("seventh port that is bad", x.port(1, 100), -2);
        c.due("ports", x.count(0), 6);
        for (int g = 0; g < 4; g++) {
            c.due("first price", x.price(5, g), 10);
        }
    }

    private static void wants() {
        MonsoonTrade x = new MonsoonTrade();
        c.due("wants without a port", x.wants(0, 0, 5, 5), -2);
        x.port(3, 3);
        c.due("least", x.wants(0, 0, 1, 0), 1);
        c.due("most", x.wants(0, 3, 99, 9), 99);
        c.due("base 0", x.wants(0, 0, 0, 0), -2);
        c.due("base 100", x.wants(0, 0, 100, 0), -2);
        c.due("fall -1", x.wants(0, 0, 9, -1), -2);
        c.due("fall 10", x.wants(0, 0, 9, 10), -2);
        c.due("good -1", x.wants(0, -1, 9, 0), -2);
        c.due("good 4", x.wants(0, 4, 9, 0), -2);
        c.due("port -1", x.wants(-1, 0, 9, 0), -2);
        c.due("port 1", x.wants(1, 0, 9, 0), -2);
        c.due("refused: as before", x.price(0, 0), 1);
        c.due("other good", x.price(0, 1), 10);
    }

    private static void prices() {
        MonsoonTrade x = new MonsoonTrade();
        x.port(0, 0);
        x.dhow(0, 99, 9999);
        x.buy(0, 0, 99);
        c.due("buying: landed stays 0", x.price(0, 0), 10);
        x.wants(0, 0, 50, 3);
        x.sell(0, 0, 3);
        c.due("9 by 10, cut", x.price(0, 0), 50);
        x.sell(0, 0, 1);
        c.due("12 by 10, cut", x.price(0, 0), 49);
        c.due("wants keeps what was landed", x.wants(0, 0, 50, 9), 47);
        x.buy(0, 0, 1);
        c.due("27 by 10", x.price(0, 0), 48);
        x.sell(0, 0, 90);
        c.due("1 at least", x.price(0, 0), 1);
        c.due("1 at least by wants", x.wants(0, 0, 99, 9), 16);
        c.due("others as before", x.price(0, 1), 10);
        c.due("price port", x.price(1, 0), -2);
        c.due("price port -1", x.price(-1, 0), -2);
        c.due("price good 4", x.price(0, 4), -2);
        c.due("price good -1", x.price(0, -1), -2);
    }

    private static void winds() {
        MonsoonTrade x = new MonsoonTrade();
        c.due("month -1", x.wind(-1, 0), -2);
        c.due("month 12", x.wind(12, 0), -2);
        c.due("w -3", x.wind(0, -3), -2);
        c.due("w 3", x.wind(0, 3), -2);
        c.due("month 0", x.wind(0, 2), 1);
        c.due("month 11", x.wind(11, -2), 1);
        x.port(0, 0);
        x.port(12, 0);
        c.due("month 0", x.way(0, 1, 29), 3);
        c.due("month 1 is calm", x.way(0, 1, 30), 6);
        c.due("month 11", x.way(0, 1, 359), -1);
        c.due("month 11 back", x.way(1, 0, 330), 3);
        c.due("a year later", x.way(0, 1, 360), 3);
        c.due("day 9999 is in month 9", x.way(0, 1, 9999), 6);
    }

    private static void ways() {
        MonsoonTrade x = new MonsoonTrade();
        x.port(10, 10);
        x.port(13, 20);
        x.port(10, 11);
        x.port(10, 10);
        x.wind(0, 1);
        c.due("to greater x", x.way(0, 1, 0), 5);
        c.due("to lesser x", x.way(1, 0, 0), 13);
        c.due("same x", x.way(0, 2, 0), 1);
        c.due("same place", x.way(0, 3, 0), 1);
        x.wind(0, -2);
        c.due("no way", x.way(0, 1, 0), -1);
        c.due("same x in any wind", x.way(0, 2, 0), 1);
        c.due("to itself", x.way(0, 0, 0), -2);
        c.due("from none", x.way(-1, 0, 0), -2);
        c.due("from none", x.way(4, 0, 0), -2);
        c.due("to none", x.way(0, 4, 0), -2);
        c.due("to none", x.way(0, -1, 0), -2);
        c.due("day -1", x.way(0, 1, -1), -2);
        c.due("day 10000", x.way(0, 1, 10000), -2);
        c.due("day 9999", x.way(0, 1, 9999), 7);
    }

    private static void waysOfAllWinds() {
        for (int w = -2; w <= 2; w++) {
            for (int far = 1; far < 30; far++) {
                MonsoonTrade x = new MonsoonTrade();
                x.port(30, 50);
                x.port(31, 50 + far - 1);
                x.wind(0, w);
                int with = 2 + w;
                int against = 2 - w;
                c.due("with " + w, x.way(0, 1, 0), with == 0 ? -1 : (int) Math.ceil((double) far / with));
                c.due("against " + w, x.way(1, 0, 0), against == 0 ? -1 : (int) Math.ceil((double) far / against));
            }
        }
    }
}
