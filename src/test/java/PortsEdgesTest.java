/** The boundary cases of promises 2 to 5 and 7: ports, prices, winds and ways. */
public final class PortsEdgesTest {
    private static final Check c = new Check("PortsEdgesTest");
    private static final Edge e = new Edge(c);

    public static void main(String[] args) {
        portSides();
        portFull();
        firstBasesAndFalls();
        wantsSides();
        wantsChangesOneGoodOfOnePort();
        wantsKeepsWhatWasLanded();
        priceSides();
        priceIsCut();
        priceIsOneAtLeast();
        sellingIsAtThePriceAsItIs();
        buyingIsAtThePriceAndOne();
        landedIsZeroAtLeast();
        windSides();
        windsAreCalmAtFirst();
        windOfEachMonth();
        waySides();
        wayIsRoundedUp();
        wayIsOneDayAtLeast();
        wayToTheSameX();
        wayBySpeed();
        wayOverMonths();
        c.finish();
    }

    // ---- promise 2

    /** "at X, Y (0 .. 99)" */
    private static void portSides() {
        e.outside("x", Scene.NEW, -2, 0, 99, (x, n) -> x.port(n, 0));
        e.outside("y", Scene.NEW, -2, 0, 99, (x, n) -> x.port(0, n));
        e.outside("x", Scene.BUSY, -2, 0, 99, (x, n) -> x.port(n, 99));
        e.outside("y", Scene.BUSY, -2, 0, 99, (x, n) -> x.port(99, n));
        MonsoonTrade x = new MonsoonTrade();
        c.due("least x and y", x.port(0, 0), 0);
        c.due("greatest x and y", x.port(99, 99), 1);
        c.due("least x, greatest y", x.port(0, 99), 2);
        c.due("greatest x, least y", x.port(99, 0), 3);
        c.due("far apart", x.way(0, 1, 0), 99);
        c.due("along y", x.way(0, 2, 0), 50);
        c.due("along x", x.way(0, 3, 0), 50);
        c.due("across", x.way(3, 2, 0), 99);
        c.due("at a port's place", x.port(99, 0), 4);
    }

    /** "PORTS (6 at most) .. are numbered from 0 as they come"; "BAD; FULL" */
    private static void portFull() {
        MonsoonTrade x = new MonsoonTrade();
        for (int i = 0; i < 6; i++) {
            c.due("ports ahead of " + i, x.count(0), i);
            c.due("price in the port to come", x.price(i, 0), -2);
            c.due("port " + i, x.port(i, i), i);
            c.due("price in the port that came", x.price(i, 0), 10);
        }
        e.refused("a seventh", Scene.CROWDED, -4, y -> y.port(0, 0));
        e.refused("BAD x ahead of FULL", Scene.CROWDED, -2, y -> y.port(100, 0));
        e.refused("BAD x ahead of FULL", Scene.CROWDED, -2, y -> y.port(-1, 0));
        e.refused("BAD y ahead of FULL", Scene.CROWDED, -2, y -> y.port(0, 100));
        e.refused("BAD y ahead of FULL", Scene.CROWDED, -2, y -> y.port(0, -1));
    }

    /** "all BASES 10, FALLS 0" */
    private static void firstBasesAndFalls() {
        MonsoonTrade x = Scene.crowded();
        for (int port = 0; port < 6; port++) {
            for (int good = 0; good < 4; good++) {
                c.due("first price", x.price(port, good), 10);
            }
        }
        MonsoonTrade y = new MonsoonTrade();
        for (int port = 0; port < 4; port++) {
            y.port(port, 0);
            y.dhow(port, 99, 2000);
            for (int good = 0; good < 4; good++) {
                y.buy(port, good, 99);
                y.sell(port, good, 99);
                c.due("no fall when 99 are landed", y.price(port, good), 10);
            }
        }
    }

    // ---- promise 3

    /** "a BASE (1 .. 99), a FALL (0 .. 9)"; "GOODS are 0 .. 3" */
    private static void wantsSides() {
        e.outside("port", Scene.BUSY, -2, 0, 3, (x, n) -> x.wants(n, 0, 50, 5));
        e.outside("port", Scene.CROWDED, -2, 0, 5, (x, n) -> x.wants(n, 0, 50, 5));
        e.outside("good", Scene.BUSY, -2, 0, 3, (x, n) -> x.wants(0, n, 50, 5));
        e.outside("base", Scene.BUSY, -2, 1, 99, (x, n) -> x.wants(0, 0, n, 5));
        e.outside("fall", Scene.BUSY, -2, 0, 9, (x, n) -> x.wants(0, 0, 50, n));
        e.due("first port and good, least base and fall", Scene.BUSY, 1, x -> x.wants(0, 0, 1, 0));
        e.due("last port and good, greatest base and fall", Scene.BUSY, 99, x -> x.wants(3, 3, 99, 9));
        e.due("sixth port", Scene.CROWDED, 2, x -> x.wants(5, 3, 2, 9));
    }

    private static void wantsChangesOneGoodOfOnePort() {
        MonsoonTrade x = Scene.ports(0, 0, 0, 1, 0, 2);
        x.wants(1, 2, 77, 0);
        for (int port = 0; port < 3; port++) {
            for (int good = 0; good < 4; good++) {
                c.due("price of " + good + " in " + port, x.price(port, good), port == 1 && good == 2 ? 77 : 10);
            }
        }
    }

    /** "its PRICE then": what was LANDED counts on. */
    private static void wantsKeepsWhatWasLanded() {
        MonsoonTrade x = landed(20);
        c.due("20 are landed", x.wants(0, 0, 50, 9), 32);
        c.due("and stay so", x.wants(0, 0, 50, 1), 48);
        c.due("other goods are not", x.wants(0, 1, 50, 9), 50);
        c.due("other ports have none", x.wants(1, 0, 50, 9), 50);
    }

    // ---- promise 4

    private static void priceSides() {
        e.outside("port", Scene.BUSY, -2, 0, 3, (x, n) -> x.price(n, 0));
        e.outside("port", Scene.CROWDED, -2, 0, 5, (x, n) -> x.price(n, 0));
        e.outside("good", Scene.BUSY, -2, 0, 3, (x, n) -> x.price(0, n));
        e.due("last port, last good", Scene.BUSY, 5 + 21 + 9, x -> x.price(3, 3));
    }

    /** So many of good 0 are landed in port 0, 396 at most; all base and fall 10 and 0. */
    private static MonsoonTrade landed(int n) {
        MonsoonTrade x = Scene.ports(0, 0, 12, 0);
        for (int dhow = 0; 99 * dhow < n; dhow++) {
            x.dhow(0, 99, 99 * 11);
            x.buy(dhow, 0, Math.min(99, n - 99 * dhow));
        }
        for (int dhow = 0; 99 * dhow < n; dhow++) {
            x.sell(dhow, 0, Math.min(99, n - 99 * dhow));
        }
        return x;
    }

    private static void price(int base, int fall, int landed, int due) {
        MonsoonTrade x = landed(landed);
        String what = "base " + base + ", fall " + fall + ", landed " + landed;
        c.due(what, x.wants(0, 0, base, fall), due);
        c.due(what, x.price(0, 0), due);
    }

    /** "FALL times LANDED by 10, cut" */
    private static void priceIsCut() {
        price(50, 9, 0, 50);
        price(50, 9, 1, 50);
        price(50, 1, 9, 50);
        price(50, 1, 10, 49);
        price(50, 1, 11, 49);
        price(50, 1, 19, 49);
        price(50, 1, 20, 48);
        price(50, 5, 1, 50);
        price(50, 5, 2, 49);
        price(50, 5, 3, 49);
        price(50, 9, 2, 49);
        price(50, 9, 3, 48);
        price(50, 9, 11, 41);
        price(50, 3, 3, 50);
        price(50, 3, 4, 49);
        price(50, 0, 396, 50);
    }

    /** "1 at least" */
    private static void priceIsOneAtLeast() {
        price(10, 9, 10, 1);
        price(10, 9, 11, 1);
        price(10, 9, 12, 1);
        price(10, 9, 9, 2);
        price(10, 9, 99, 1);
        price(1, 9, 0, 1);
        price(1, 9, 1, 1);
        price(1, 9, 2, 1);
        price(99, 9, 107, 3);
        price(99, 9, 108, 2);
        price(99, 9, 109, 1);
        price(99, 9, 110, 1);
        price(99, 9, 396, 1);
    }

    /** "Selling n of a GOOD: PRICE as it is, for each; LANDED is n more" */
    private static void sellingIsAtThePriceAsItIs() {
        MonsoonTrade x = Scene.plain();
        x.buy(0, 0, 20);
        x.wants(0, 0, 60, 9);
        c.due("one price for 19", x.sell(0, 0, 19), 500 - 220 + 19 * 60);
        c.due("falls for what comes behind", x.price(0, 0), 60 - 17);
        c.due("the last one", x.sell(0, 0, 1), 1420 + 43);
        c.due("20 are landed", x.price(0, 0), 60 - 18);
    }

    /** "Buying n: PRICE and 1, for each; LANDED is n less" */
    private static void buyingIsAtThePriceAndOne() {
        MonsoonTrade x = landed(20);
        x.wants(0, 0, 60, 9);
        x.dhow(0, 99, 1000);
        c.due("one price and 1 for 10", x.buy(1, 0, 10), 1000 - 10 * 43);
        c.due("10 are left", x.price(0, 0), 60 - 9);
        c.due("one price and 1 for 1", x.buy(1, 0, 1), 570 - 52);
        c.due("9 are left", x.price(0, 0), 60 - 8);
    }

    /** "LANDED is n less (0 at least)" */
    private static void landedIsZeroAtLeast() {
        for (int more = -1; more <= 10; more++) {
            MonsoonTrade x = landed(10);
            x.dhow(0, 99, 2000);
            x.buy(1, 0, 10 + more);
            c.due("landed 10, bought " + (10 + more), x.wants(0, 0, 99, 9), 99);
            x.wants(0, 0, 99, 9);
            x.sell(1, 0, 9);
            c.due("9 more are landed", x.price(0, 0), more < 0 ? 90 : 91);
        }
    }

    // ---- promise 5

    /** "of each MONTH a number -2 .. 2" */
    private static void windSides() {
        e.outside("month", Scene.BUSY, -2, 0, 11, (x, n) -> x.wind(n, 0));
        e.outside("wind", Scene.BUSY, -2, -2, 2, (x, n) -> x.wind(5, n));
        e.due("first month, least wind", Scene.BUSY, 1, x -> x.wind(0, -2));
        e.due("last month, greatest wind", Scene.BUSY, 1, x -> x.wind(11, 2));
        e.due("without a port", Scene.NEW, 1, x -> x.wind(0, 2));
    }

    /** "(0 at first)" */
    private static void windsAreCalmAtFirst() {
        MonsoonTrade x = Scene.plain();
        for (int month = 0; month < 12; month++) {
            c.due("calm in " + month, x.way(0, 1, 30 * month), 6);
            c.due("calm in " + month, x.way(1, 0, 30 * month), 6);
        }
    }

    /** The days by a wind for 12 to greater x. */
    private static int daysBy(int wind) {
        return wind == -2 ? -1 : wind == -1 ? 12 : wind == 0 ? 6 : wind == 1 ? 4 : 3;
    }

    private static void windOfEachMonth() {
        MonsoonTrade x = Scene.plain();
        for (int month = 0; month < 12; month++) {
            x.wind(month, month % 5 - 2);
        }
        for (int month = 0; month < 12; month++) {
            int wind = month % 5 - 2;
            for (int year : new int[] {0, 360, 9000}) {
                int first = year + 30 * month;
                c.due("to greater x on the first day of " + month, x.way(0, 1, first), daysBy(wind));
                c.due("to lesser x on the first day of " + month, x.way(1, 0, first), daysBy(-wind));
                c.due("to greater x on the last day of " + month, x.way(0, 1, first + 29), daysBy(wind));
                c.due("to lesser x on the last day of " + month, x.way(1, 0, first + 29), daysBy(-wind));
            }
        }
    }

    // ---- promise 7

    /** "to another one"; "on a DAY (0 .. 9999)"; "BAD: also a = b" */
    private static void waySides() {
        e.outside("from", Scene.BUSY, -2, 0, 3, (x, n) -> x.way(n, 1, 0));
        e.outside("to", Scene.BUSY, -2, 0, 3, (x, n) -> x.way(1, n, 0));
        e.outside("from", Scene.CROWDED, -2, 0, 5, (x, n) -> x.way(n, 1, 0));
        e.outside("to", Scene.CROWDED, -2, 0, 5, (x, n) -> x.way(1, n, 0));
        e.outside("day", Scene.BUSY, -2, 0, 9999, (x, n) -> x.way(0, 1, n));
        e.refused("to itself", Scene.BUSY, -2, x -> x.way(0, 0, 0));
        e.refused("to itself", Scene.BUSY, -2, x -> x.way(3, 3, 9999));
        e.due("first day", Scene.BUSY, 4, x -> x.way(0, 1, 0));
        e.due("last day", Scene.PLAIN, 6, x -> x.way(0, 1, 9999));
        e.due("between the first and the last port", Scene.CROWDED, 33, x -> x.way(5, 0, 0));
        e.refused("there is no way", Scene.BUSY, -1, x -> x.way(0, 1, 60));
        e.refused("no way on no day: BAD", Scene.BUSY, -2, x -> x.way(0, 1, -60));
        e.refused("no way to itself: BAD", Scene.BUSY, -2, x -> x.way(1, 1, 60));
    }

    private static int way(int dx, int dy, int wind) {
        MonsoonTrade x = Scene.ports(40, 40, 40 + dx, 40 + dy);
        x.wind(0, wind);
        return x.way(0, 1, 0);
    }

    /** "the differences in X and Y together by SPEED, rounded up" */
    private static void wayIsRoundedUp() {
        c.due("7 by 2", way(3, 4, 0), 4);
        c.due("8 by 2", way(4, 4, 0), 4);
        c.due("9 by 2", way(5, 4, 0), 5);
        c.due("8 by 3", way(4, 4, 1), 3);
        c.due("9 by 3", way(4, 5, 1), 3);
        c.due("10 by 3", way(4, 6, 1), 4);
        c.due("8 by 4", way(4, 4, 2), 2);
        c.due("9 by 4", way(4, 5, 2), 3);
        c.due("11 by 4", way(6, 5, 2), 3);
        c.due("12 by 4", way(6, 6, 2), 3);
        c.due("7 by 1", way(3, 4, -1), 7);
        c.due("differences below 0", way(-3, -4, 0), 4);
        c.due("one below 0", way(-3, 4, 0), 4);
        c.due("one below 0", way(3, -4, 0), 4);
        c.due("y alone", way(0, -5, 0), 3);
    }

    /** "1 DAY at least" */
    private static void wayIsOneDayAtLeast() {
        for (int wind = -2; wind <= 2; wind++) {
            c.due("at the same place", way(0, 0, wind), 1);
        }
        c.due("1 by 4", way(1, 0, 2), 1);
        c.due("4 by 4", way(1, 3, 2), 1);
        c.due("5 by 4", way(1, 4, 2), 2);
        c.due("2 by 2", way(0, 2, 0), 1);
        c.due("3 by 2", way(0, 3, 0), 2);
    }

    /** "2 if to the same X" */
    private static void wayToTheSameX() {
        for (int wind = -2; wind <= 2; wind++) {
            c.due("to greater y in wind " + wind, way(0, 12, wind), 6);
            c.due("to lesser y in wind " + wind, way(0, -12, wind), 6);
        }
    }

    /** "SPEED is 2, and the WIND if it goes to a greater X, less it if to a lesser X; SPEED 0: there is no WAY" */
    private static void wayBySpeed() {
        for (int wind = -2; wind <= 2; wind++) {
            c.due("to x by 12 in wind " + wind, way(12, 0, wind), daysBy(wind));
            c.due("to lesser x by 12 in wind " + wind, way(-12, 0, wind), daysBy(-wind));
            c.due("to x by 1 in wind " + wind, way(1, 11, wind), daysBy(wind));
            c.due("to lesser x by 1 in wind " + wind, way(-1, 11, wind), daysBy(-wind));
        }
        c.due("no way, near as it is", way(1, 0, -2), -1);
        c.due("no way back", way(-1, 0, 2), -1);
    }

    /** "its MONTH is it by 30 (cut), modulo 12" */
    private static void wayOverMonths() {
        MonsoonTrade x = Scene.plain();
        x.wind(0, 2);
        x.wind(1, 1);
        x.wind(11, -2);
        x.wind(9, -1);
        int[][] rows = {{0, 3}, {29, 3}, {30, 4}, {59, 4}, {60, 6}, {269, 6}, {270, 12}, {299, 12}, {300, 6}, {329, 6},
            {330, -1}, {359, -1}, {360, 3}, {389, 3}, {390, 4}, {719, -1}, {720, 3}, {9989, 6}, {9990, 12}, {9999, 12}};
        for (int[] row : rows) {
            c.due("way on day " + row[0], x.way(0, 1, row[0]), row[1]);
        }
    }
}
