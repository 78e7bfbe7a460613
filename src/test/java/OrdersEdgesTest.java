/** The boundary cases of promises 26 and 27: orders, their bounds, and which of like ones is THE ORDER. */
public final class OrdersEdgesTest {
    private static final Check c = new Check("OrdersEdgesTest");
    private static final Edge e = new Edge(c);
    private static final long NO = Edge.NO;

    public static void main(String[] args) {
        orderSides();
        legSides();
        orderInNoPort();
        badAheadOfNone();
        thereIsNone();
        legsThatAreNone();
        asManyAsTheHoldLets();
        asManyAsCoinsBuy();
        noneIsBoughtAtALoss();
        aGoodAheadOfNone();
        likeGoods();
        likePorts();
        goodAheadOfPort();
        legByLeg();
        fewestLegs();
        moreLegsForACoin();
        thereAndBackAgain();
        noLandedIsLookedAt();
        goodsAboardAreSoldFirst();
        thePortsLaterWord();
        theDhowsLaterWord();
        wordsOfTheSameDay();
        pricesAsTold();
        aPortWithoutAWord();
        wordsOfAnotherDhow();
        theLastDay();
        theLastDayOfManyLegs();
        theLastOfAllDays();
        waysOfTheDaysOfLeaving();
        noWayInTheNextMonth();
        c.finish();
    }

    // ---- scenes

    /**
     * Ports at (0, 0), (0, 2), .. with these prices of goods 0 .. 3, no falls; a dhow that has been in each,
     * in port 0 again.
     */
    private static MonsoonTrade toured(int hold, int purse, int[]... prices) {
        MonsoonTrade x = new MonsoonTrade();
        for (int port = 0; port < prices.length; port++) {
            x.port(0, 2 * port);
            for (int good = 0; good < 4; good++) {
                x.wants(port, good, prices[port][good], 0);
            }
        }
        x.dhow(0, hold, purse);
        for (int port = 1; port <= prices.length; port++) {
            go(x, 0, port % prices.length);
        }
        return x;
    }

    /** Sails a dhow, and lets days pass till it is there. */
    private static void go(MonsoonTrade x, int dhow, int port) {
        int comes = x.sail(dhow, port);
        c.holds("there is a way to " + port, comes > x.count(5));
        x.days(comes - x.count(5));
    }

    private static int[] of(int... prices) {
        return prices;
    }

    /** On day 2, with 60 coins: 10 of good 0 bring 20 each in port 1. */
    private static MonsoonTrade two() {
        return toured(10, 60, of(5, 9, 9, 9), of(20, 9, 9, 9));
    }

    /** That THE ORDER has this worth and these legs; no legs: there is none. */
    private static void order(String what, MonsoonTrade x, int n, int last, long worth, int... legs) {
        boolean none = legs.length == 0;
        c.due(what + ": worth", x.order(0, n, last, 0), none ? NO : worth);
        c.due(what + ": legs", x.order(0, n, last, 1), none ? NO : legs.length);
        for (int i = 0; i < 3; i++) {
            c.due(what + ": leg " + i, x.leg(0, n, last, i), i < legs.length ? legs[i] : -1);
        }
    }

    // ---- sides

    /** "n legs (1 .. 3)", "a LAST DAY (0 .. 9999)"; "NO: no such" */
    private static void orderSides() {
        e.outside("dhow", OrdersEdgesTest::two, NO, 0, 0, (x, n) -> x.order(n, 1, 9999, 0));
        e.outside("dhow", Scene.BUSY, NO, 0, 3, (x, n) -> x.order(n, 1, 9999, 0));
        e.outside("n", OrdersEdgesTest::two, NO, 1, 3, (x, n) -> x.order(0, n, 9999, 0));
        e.outside("last day", OrdersEdgesTest::two, NO, 0, 9999, (x, n) -> x.order(0, 1, n, 0));
        e.outside("what", OrdersEdgesTest::two, NO, 0, 2, (x, n) -> x.order(0, 1, 9999, n));
        e.refused("worth", OrdersEdgesTest::two, 200, x -> x.order(0, 1, 9999, 0));
        e.refused("legs", OrdersEdgesTest::two, 1, x -> x.order(0, 2, 9999, 1));
        e.refused("day", OrdersEdgesTest::two, 3, x -> x.order(0, 2, 9999, 2));
        e.refused("most legs", OrdersEdgesTest::two, 3, x -> x.order(0, 3, 9999, 1));
        e.refused("last day 0 is too early", OrdersEdgesTest::two, NO, x -> x.order(0, 1, 0, 0));
    }

    private static void legSides() {
        e.outside("dhow", OrdersEdgesTest::two, -2, 0, 0, (x, n) -> x.leg(n, 1, 9999, 0));
        e.outside("dhow", Scene.BUSY, -2, 0, 3, (x, n) -> x.leg(n, 1, 9999, 0));
        e.outside("n", OrdersEdgesTest::two, -2, 1, 3, (x, n) -> x.leg(0, n, 9999, 0));
        e.outside("last day", OrdersEdgesTest::two, -2, 0, 9999, (x, n) -> x.leg(0, 1, n, 0));
        e.outside("n, of a leg that is none", OrdersEdgesTest::two, -2, 1, 3, (x, n) -> x.leg(0, n, 9999, 3));
        e.refused("leg 0", OrdersEdgesTest::two, 1, x -> x.leg(0, 3, 9999, 0));
        e.refused("last day 0 is too early", OrdersEdgesTest::two, -1, x -> x.leg(0, 1, 0, 0));
    }

    /** "NO: .. the DHOW is in no PORT" */
    private static void orderInNoPort() {
        for (int what = 0; what < 3; what++) {
            int w = what;
            e.refused("at sea", Scene.BUSY, NO, x -> x.order(1, 3, 9999, w));
            e.refused("lost", Scene.BUSY, NO, x -> x.order(2, 3, 9999, w));
        }
        for (int i = 0; i < 3; i++) {
            int leg = i;
            e.refused("leg at sea", Scene.BUSY, -1, x -> x.leg(1, 3, 9999, leg));
            e.refused("leg of a lost one", Scene.BUSY, -1, x -> x.leg(2, 3, 9999, leg));
        }
        MonsoonTrade x = two();
        x.sail(0, 1);
        c.due("at sea", x.order(0, 1, 9999, 0), NO);
        x.days(1);
        order("come in", x, 1, 9999, 60, 0 + 40);
    }

    private static void badAheadOfNone() {
        e.outside("n at sea", Scene.BUSY, -2, 1, 3, (x, n) -> x.leg(1, n, 9999, 0));
        e.outside("last day at sea", Scene.BUSY, -2, 0, 9999, (x, n) -> x.leg(1, 3, n, 0));
        e.outside("n of a lost one", Scene.BUSY, -2, 1, 3, (x, n) -> x.leg(2, n, 9999, 0));
        e.outside("last day of a lost one", Scene.BUSY, -2, 0, 9999, (x, n) -> x.leg(2, 3, n, 0));
        e.outside("n where there is none", Scene.PLAIN, -2, 1, 3, (x, n) -> x.leg(0, n, 9999, 0));
    }

    /** "NO: .. there is none" */
    private static void thereIsNone() {
        for (int what = 0; what < 3; what++) {
            int w = what;
            e.refused("no word of another port", Scene.PLAIN, NO, x -> x.order(0, 3, 9999, w));
            e.refused("one port alone", OrdersEdgesTest::alone, NO, x -> x.order(0, 3, 9999, w));
        }
        e.refused("leg: no word of another port", Scene.PLAIN, -1, x -> x.leg(0, 3, 9999, 0));
        e.refused("leg: one port alone", OrdersEdgesTest::alone, -1, x -> x.leg(0, 3, 9999, 0));
        MonsoonTrade x = Scene.plain();
        go(x, 0, 1);
        x.wind(0, 2);
        order("no way to the only other port", x, 3, 9999, 0);
        x.wind(0, 1);
        order("a way to it", x, 1, 9999, 500, 40);
    }

    private static MonsoonTrade alone() {
        MonsoonTrade x = Scene.ports(0, 0);
        x.dhow(0, 9, 99);
        return x;
    }

    /** "NONE: none such" */
    private static void legsThatAreNone() {
        e.outside("leg of 1", OrdersEdgesTest::two, -1, 0, 0, (x, n) -> x.leg(0, 2, 9999, n));
        MonsoonTrade x = toured(10, 60, of(5, 9, 9, 9), of(20, 5, 9, 9), of(9, 20, 5, 9), of(9, 9, 20, 9));
        order("three legs", x, 3, 9999, 60 + 140 + 140 + 140, 1, 12, 23);
        c.due("leg 3 of 3", x.leg(0, 3, 9999, 3), -1);
        c.due("leg -1 of 3", x.leg(0, 3, 9999, -1), -1);
        order("two of them", x, 2, 9999, 60 + 140 + 140, 1, 12);
        order("one of them", x, 1, 9999, 60 + 140, 1);
    }

    // ---- what is bought

    /** "as many of one GOOD as the HOLD lets" */
    private static void asManyAsTheHoldLets() {
        int[] holds = {1, 9, 10, 11, 99};
        int[] due = {1, 9, 10, 10, 10};
        for (int i = 0; i < holds.length; i++) {
            MonsoonTrade x = toured(holds[i], 60, of(5, 9, 9, 9), of(20, 9, 9, 9));
            order("hold " + holds[i], x, 1, 9999, 60 + 14 * due[i], 1);
        }
    }

    /** "and COINS buy", at "PRICE and 1 each" */
    private static void asManyAsCoinsBuy() {
        int[] purses = {6, 11, 12, 59, 60, 61, 65, 66, 600};
        int[] due = {1, 1, 2, 9, 10, 10, 10, 10, 10};
        for (int i = 0; i < purses.length; i++) {
            MonsoonTrade x = toured(10, purses[i], of(5, 9, 9, 9), of(20, 9, 9, 9));
            order("purse " + purses[i], x, 1, 9999, purses[i] + 14 * due[i], 1);
        }
        c.due("by a purse that buys none", toured(10, 5, of(5, 9, 9, 9), of(20, 9, 9, 9)).order(0, 3, 9999, 0), 5);
        c.due("by an empty purse", toured(10, 0, of(5, 9, 9, 9), of(20, 9, 9, 9)).order(0, 3, 9999, 0), 0);
    }

    /** "(or none)", which is 4 */
    private static void noneIsBoughtAtALoss() {
        order("all lose", toured(10, 100, of(9, 9, 9, 9), of(9, 9, 9, 9)), 3, 9999, 100, 41);
        order("the last gains", toured(10, 100, of(9, 9, 9, 9), of(9, 9, 9, 11)), 2, 9999, 110, 31);
    }

    /** "the lesser choice first": a GOOD that brings what it costs is ahead of none. */
    private static void aGoodAheadOfNone() {
        order("good 3 brings nothing", toured(10, 100, of(9, 9, 9, 9), of(9, 9, 9, 10)), 3, 9999, 100, 31);
        order("good 0 brings nothing", toured(10, 100, of(9, 9, 9, 9), of(10, 9, 9, 10)), 3, 9999, 100, 1);
    }

    // ---- like ones

    private static void likeGoods() {
        order("1 and 2", toured(10, 100, of(9, 4, 4, 9), of(9, 15, 15, 9)), 1, 9999, 200, 11);
        order("0 and 3", toured(10, 100, of(4, 9, 9, 8), of(15, 9, 9, 19)), 1, 9999, 200, 1);
        order("2 by a coin", toured(10, 100, of(9, 4, 4, 9), of(9, 15, 16, 9)), 1, 9999, 210, 21);
    }

    private static void likePorts() {
        order("1 and 2", toured(10, 100, of(4, 9, 9, 9), of(15, 9, 9, 9), of(15, 9, 9, 9)), 1, 9999, 200, 1);
        order("2 by a coin", toured(10, 100, of(4, 9, 9, 9), of(15, 9, 9, 9), of(16, 9, 9, 9)), 1, 9999, 210, 2);
        MonsoonTrade x = toured(10, 100, of(9, 9, 9, 9), of(9, 9, 9, 9), of(9, 9, 9, 9), of(9, 9, 9, 9), of(9, 9, 9, 9), of(9, 9, 9, 10));
        order("the last port", x, 1, 9999, 100, 35);
        MonsoonTrade y = toured(10, 100, of(9, 9, 9, 9), of(9, 9, 9, 9), of(9, 9, 9, 9), of(9, 9, 9, 9), of(9, 9, 9, 9), of(9, 9, 9, 9));
        order("none, to the first of five", y, 3, 9999, 100, 41);
    }

    /** "(GOOD, none is 4; then PORT)" */
    private static void goodAheadOfPort() {
        order("good 0 to port 2, good 1 to port 1", toured(10, 100, of(4, 4, 9, 9), of(9, 15, 9, 9), of(15, 9, 9, 9)), 1, 9999, 200, 2);
    }

    /** "leg by leg" */
    private static void legByLeg() {
        // what is bought in ports 1 and 2 is sold in port 0; nothing gains from port 0
        int[] home = of(20, 20, 1, 20);
        order("the first leg's port", toured(10, 60, home, of(9, 5, 1, 9), of(5, 9, 1, 9)), 2, 9999, 200, 41, 10);
        order("the second leg's good", toured(10, 60, home, of(5, 5, 1, 9), of(9, 9, 1, 9)), 2, 9999, 200, 41, 0);
        // good 3 gains nothing and loses nothing on the way to port 2
        order("the first leg's good", toured(10, 60, of(20, 20, 1, 8), of(9, 5, 1, 5), of(5, 9, 1, 9)), 2, 9999, 200, 32, 0);
    }

    /** "of like ones the fewest legs" */
    private static void fewestLegs() {
        MonsoonTrade x = toured(10, 60, of(5, 9, 9, 9), of(20, 9, 9, 9), of(20, 9, 9, 9));
        order("one leg is as good as two", x, 2, 9999, 200, 1);
        c.due("its day", x.order(0, 2, 9999, 2), x.count(5) + 1);
        MonsoonTrade y = toured(10, 60, of(19, 9, 9, 9), of(5, 9, 9, 9), of(20, 9, 9, 9));
        order("two legs are as good as three", y, 3, 9999, 200, 41, 2);
        MonsoonTrade z = toured(10, 60, of(9, 9, 9, 9), of(9, 9, 9, 9), of(9, 9, 9, 9));
        order("one leg is as good as three", z, 3, 9999, 60, 41);
        // by port 1, with good 0 that brings nothing, and with good 3 from there, it is as good
        MonsoonTrade w = toured(10, 60, of(9, 9, 9, 5), of(10, 9, 9, 5), of(9, 9, 9, 20));
        order("the fewest, though its choices are not the least", w, 2, 9999, 200, 32);
    }

    private static void moreLegsForACoin() {
        MonsoonTrade x = toured(1, 60, of(5, 9, 9, 9), of(20, 9, 9, 9), of(9, 9, 9, 11));
        order("a coin more by a second leg", x, 2, 9999, 75, 1, 32);
        order("not asked for", x, 1, 9999, 74, 1);
    }

    /** "then it goes on to another PORT": one in which it was, too. */
    private static void thereAndBackAgain() {
        MonsoonTrade x = toured(10, 60, of(5, 20, 9, 9), of(20, 5, 9, 9));
        order("there", x, 1, 9999, 200, 1);
        order("and back", x, 2, 9999, 340, 1, 10);
        order("and there", x, 3, 9999, 480, 1, 10, 1);
        c.due("the day", x.order(0, 3, 9999, 2), 2 + 3);
    }

    /** "no LANDED is looked at, nothing is changed by selling or buying" */
    private static void noLandedIsLookedAt() {
        MonsoonTrade x = two();
        x.wants(0, 0, 5, 9);
        x.wants(1, 0, 20, 9);
        order("there, back, there", x, 3, 9999, 340, 1, 40, 1);
        c.due("the price stays", x.price(0, 0), 5);
        c.due("the price stays", x.price(1, 0), 20);
        c.due("the purse stays", x.told(0, 3), 60);
        c.due("nothing aboard", x.told(0, 4), 0);
        c.due("in port", x.told(0, 1), -1);
    }

    /** "GOODS aboard are sold and as many .. are bought": the hold is free then, and there are more COINS. */
    private static void goodsAboardAreSoldFirst() {
        MonsoonTrade x = toured(10, 30, of(5, 2, 9, 9), of(20, 9, 9, 9));
        x.buy(0, 1, 10);
        c.due("the purse is empty", x.told(0, 3), 0);
        // 10 of good 1 bring 20: that buys 3 of good 0 at 6
        order("a full hold, an empty purse", x, 1, 9999, 20 + 3 * 14, 1);
        MonsoonTrade y = toured(10, 600, of(5, 9, 9, 9), of(20, 9, 9, 9));
        y.buy(0, 0, 10);
        order("what is aboard is sold, and bought anew", y, 1, 9999, 540 + 50 - 60 + 200, 1);
        MonsoonTrade z = toured(10, 100, of(9, 9, 9, 9), of(99, 9, 9, 9));
        z.buy(0, 2, 4);
        z.buy(0, 3, 3);
        order("all goods are", z, 1, 9999, 30 + 63 + 9 * 89, 1);
    }

    // ---- WORDS

    /** Two ports 2 apart and a dhow in each; dhow 0 has gone to port 1 and back, and is in port 0 on day 2. */
    private static MonsoonTrade met() {
        MonsoonTrade x = Scene.ports(0, 0, 0, 2);
        for (int port = 0; port < 2; port++) {
            for (int good = 0; good < 4; good++) {
                x.wants(port, good, 9, 0);
            }
        }
        x.dhow(0, 10, 100);
        x.dhow(1, 10, 100);
        go(x, 0, 1);
        go(x, 0, 0);
        return x;
    }

    /** "(with those of the PORT, as if it left now)": a later WORD that the PORT has of another. */
    private static void thePortsLaterWord() {
        MonsoonTrade x = met();
        x.wants(1, 1, 50, 0);
        go(x, 1, 0);
        order("port 0 has port 1 of day 2", x, 1, 9999, 100 + 10 * 40, 11);
        c.due("the dhow has it of day 1", x.heard(0, 0, 1, -1), 1);
        c.due("at that price", x.heard(0, 0, 1, 1), 9);
    }

    private static void theDhowsLaterWord() {
        MonsoonTrade x = met();
        x.wants(1, 1, 50, 0);
        // dhow 1 leaves port 1 on day 2 for far away; dhow 0 comes to port 1 later than that
        x.port(0, 42);
        x.sail(1, 0);
        x.days(1);
        go(x, 0, 1);
        x.wants(1, 1, 70, 0);
        x.days(1);
        go(x, 0, 0);
        order("the dhow has it of a later day than the port had", x, 1, 9999, 100 + 10 * 60, 11);
    }

    /** "of a later DAY": the WORD of THE DAY that the DHOW has stands, the day after it does not. */
    private static void wordsOfTheSameDay() {
        MonsoonTrade x = met();
        x.wants(0, 2, 1, 0);
        order("it came today", x, 1, 9999, 100, 41);
        x.days(1);
        order("it came yesterday", x, 1, 9999, 100 + 10 * 7, 21);
    }

    /** "PRICES as told there": whatever they are by now, here or in another port. */
    private static void pricesAsTold() {
        MonsoonTrade x = two();
        x.wants(1, 0, 1, 0);
        x.wants(1, 3, 99, 0);
        order("port 1 has moved since", x, 1, 9999, 200, 1);
        MonsoonTrade y = toured(10, 60, of(20, 9, 9, 9), of(5, 9, 9, 9));
        y.wants(1, 0, 99, 0);
        order("what would be bought in port 1", y, 2, 9999, 200, 41, 0);
        MonsoonTrade z = two();
        z.buy(0, 0, 10);
        z.wants(0, 0, 99, 0);
        order("what is aboard, told today of port 0", z, 1, 9999, 50 - 48 + 8 * 20, 1);
        z.days(1);
        order("a day later", z, 1, 9999, 990, 41);
    }

    /** "A PORT of which it has no WORD can't be in it": not as the last, not on the way. */
    private static void aPortWithoutAWord() {
        MonsoonTrade x = two();
        x.port(0, 4);
        x.wants(2, 0, 99, 0);
        order("port 2 is not known", x, 3, 9999, 340, 1, 40, 1);
        MonsoonTrade y = Scene.ports(0, 0, 0, 2);
        y.dhow(0, 10, 100);
        go(y, 0, 1);
        c.due("known where it came from", y.order(0, 1, 9999, 0), 100);
        MonsoonTrade z = Scene.ports(0, 0, 0, 2);
        z.dhow(1, 10, 100);
        z.dhow(0, 10, 100);
        go(z, 1, 1);
        c.due("never at sea, but the port has a word", z.order(0, 1, 9999, 0), 100);
    }

    /** What another DHOW has heard is of no use here. */
    private static void wordsOfAnotherDhow() {
        MonsoonTrade x = two();
        x.port(0, 4);
        x.dhow(2, 10, 60);
        c.due("dhow 0 knows two ports", x.order(0, 1, 9999, 0), 200);
        c.due("dhow 1 knows none but its own", x.order(1, 1, 9999, 0), NO);
        c.due("no leg", x.leg(1, 1, 9999, 0), -1);
        c.due("dhow 0 knows them still", x.order(0, 1, 9999, 0), 200);
    }

    // ---- days

    /** "the DAY on which it would come to the last PORT is at most that" */
    private static void theLastDay() {
        MonsoonTrade x = two();
        order("a day ahead of the day", x, 3, 1, 0);
        order("the day", x, 3, 2, 0);
        order("when it comes", x, 3, 3, 200, 1);
        order("a day later", x, 3, 4, 200, 1);
        c.due("its day", x.order(0, 3, 3, 2), 3);
        order("the day, behind a later one", x, 3, 2, 0);
    }

    private static void theLastDayOfManyLegs() {
        MonsoonTrade x = toured(10, 60, of(5, 20, 9, 9), of(20, 5, 9, 9));
        order("time for one", x, 3, 3, 200, 1);
        order("time for two", x, 3, 4, 340, 1, 10);
        order("time for three", x, 3, 5, 480, 1, 10, 1);
        order("time for four", x, 3, 6, 480, 1, 10, 1);
        MonsoonTrade y = toured(10, 60, of(5, 9, 9, 9), of(19, 9, 9, 9), of(9, 9, 9, 9), of(20, 9, 9, 9));
        int day = y.count(5);
        order("time for the far port", y, 1, day + 3, 200, 3);
        order("time for the near one alone", y, 1, day + 2, 190, 1);
    }

    private static void theLastOfAllDays() {
        for (int day = 9996; day <= 9999; day++) {
            MonsoonTrade x = two();
            for (int left = day - 2; left > 0; left -= 400) {
                x.days(Math.min(400, left));
            }
            c.due("the day", x.count(5), day);
            order("on day " + day, x, 3, 9999, day == 9999 ? 0 : day == 9996 ? 340 : 200,
                    day == 9999 ? of() : day == 9996 ? of(1, 40, 1) : of(1));
            c.due("comes", x.order(0, 1, 9999, 2), day == 9999 ? NO : day + 1);
        }
    }

    /** Ports at x 0 and 12; the dhow knows both, is in port 0, and both ways gain. */
    private static MonsoonTrade across(int day) {
        MonsoonTrade x = Scene.ports(0, 0, 12, 0);
        for (int port = 0; port < 2; port++) {
            x.wants(port, port, 5, 0);
            x.wants(port, 1 - port, 20, 0);
        }
        x.dhow(0, 10, 60);
        go(x, 0, 1);
        go(x, 0, 0);
        x.days(day - x.count(5));
        return x;
    }

    /** "WAYS are those of the DAYS on which it would leave" */
    private static void waysOfTheDaysOfLeaving() {
        MonsoonTrade x = across(26);
        x.wind(0, 1);
        x.wind(1, -2);
        c.due("there by month 0: 4 days", x.order(0, 1, 9999, 2), 30);
        c.due("back by month 1: 3 days", x.order(0, 2, 9999, 2), 33);
        MonsoonTrade y = across(25);
        y.wind(0, 1);
        y.wind(1, -2);
        c.due("there by month 0: 4 days", y.order(0, 1, 9999, 2), 29);
        c.due("back by month 0: 12 days", y.order(0, 2, 9999, 2), 41);
        order("back in time", x, 2, 33, 340, 1, 10);
        order("not back in time", x, 2, 32, 200, 1);
        MonsoonTrade z = across(357);
        z.wind(11, 1);
        z.wind(0, -1);
        c.due("there by month 11", z.order(0, 1, 9999, 2), 361);
        c.due("back by month 0, that comes round", z.order(0, 2, 9999, 2), 365);
    }

    private static void noWayInTheNextMonth() {
        MonsoonTrade x = across(26);
        x.wind(0, 1);
        x.wind(1, 2);
        order("no way back", x, 3, 9999, 200, 1);
        x.wind(1, 1);
        order("a way back", x, 2, 9999, 340, 1, 10);
        MonsoonTrade y = across(26);
        y.wind(0, -2);
        order("no way there", y, 3, 9999, 0);
    }
}
