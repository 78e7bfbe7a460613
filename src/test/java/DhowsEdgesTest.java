/** The boundary cases of promises 8 to 15: dhows, what they buy and sell, where they sail, and days. */
public final class DhowsEdgesTest {
    private static final Check c = new Check("DhowsEdgesTest");
    private static final Edge e = new Edge(c);

    public static void main(String[] args) {
        dhowSides();
        dhowFull();
        newDhow();
        toldSides();
        toldInPortAtSeaAndLost();
        goodSides();
        sellSides();
        sellWhatIsAboard();
        sellInNoPort();
        buySides();
        buyWhatTheHoldLets();
        buyWhatThePurseLets();
        buyInNoPort();
        sailSides();
        sailToWhereItIs();
        sailInNoPort();
        sailWithoutAWay();
        sailOnTheDay();
        sailBeyondTheLastDay();
        daysSides();
        daysFull();
        daysBringIn();
        daysOverYears();
        loseSides();
        loseAtSeaAlone();
        lostIsGone();
        c.finish();
    }

    // ---- promise 8

    /** "a HOLD (1 .. 99 ..)"; "PURSE 0 .. 99999" */
    private static void dhowSides() {
        e.refused("no port at all", Scene.NEW, -2, x -> x.dhow(0, 1, 0));
        e.outside("port", Scene.PLAIN, -2, 0, 1, (x, n) -> x.dhow(n, 9, 9));
        e.outside("hold", Scene.PLAIN, -2, 1, 99, (x, n) -> x.dhow(0, n, 9));
        e.outside("purse", Scene.PLAIN, -2, 0, 99999, (x, n) -> x.dhow(0, 9, n));
        MonsoonTrade x = Scene.plain();
        c.due("first port, least hold and purse", x.dhow(0, 1, 0), 1);
        c.due("last port, greatest hold and purse", x.dhow(1, 99, 99999), 2);
        c.due("least hold", x.told(1, 2), 1);
        c.due("least purse", x.told(1, 3), 0);
        c.due("greatest hold", x.told(2, 2), 99);
        c.due("greatest purse", x.told(2, 3), 99999);
        c.due("in the first port", x.told(1, 0), 0);
        c.due("in the last port", x.told(2, 0), 1);
    }

    /** "DHOWS (4) .. are numbered from 0 as they come"; "BAD ..; FULL" */
    private static void dhowFull() {
        MonsoonTrade x = Scene.ports(0, 0);
        for (int i = 0; i < 4; i++) {
            c.due("none such yet", x.told(i, 2), -2);
            c.due("dhow " + i, x.dhow(0, 1 + i, i), i);
            c.due("its hold", x.told(i, 2), 1 + i);
        }
        e.refused("a fifth", Scene.CROWDED, -4, y -> y.dhow(0, 1, 0));
        e.refused("a fifth though one is lost", Scene.BUSY, -4, y -> y.dhow(0, 1, 0));
        e.outside("BAD port ahead of FULL", Scene.CROWDED, -2, 0, 5, (y, n) -> y.dhow(n, 1, 0));
        e.outside("BAD hold ahead of FULL", Scene.CROWDED, -2, 1, 99, (y, n) -> y.dhow(0, n, 0));
        e.outside("BAD purse ahead of FULL", Scene.CROWDED, -2, 0, 99999, (y, n) -> y.dhow(0, 1, n));
    }

    private static void newDhow() {
        MonsoonTrade x = Scene.ports(0, 0, 12, 0);
        x.days(7);
        x.dhow(1, 30, 70);
        told("new", x, 1, -1, 30, 70, 0, -1, 0);
        for (int good = 0; good < 4; good++) {
            c.due("nothing aboard", x.good(0, good), 0);
        }
        c.due("no word of its port", x.heard(0, 0, 1, -1), -1);
        c.due("no word of another", x.heard(0, 0, 0, -1), -1);
    }

    // ---- promises 9 and 10

    private static void toldSides() {
        e.outside("dhow", Scene.BUSY, -2, 0, 3, (x, n) -> x.told(n, 0));
        e.outside("dhow", Scene.PLAIN, -2, 0, 0, (x, n) -> x.told(n, 6));
        e.outside("what", Scene.BUSY, -2, 0, 6, (x, n) -> x.told(0, n));
        e.outside("what of a lost one: BAD, not NONE", Scene.BUSY, -2, 0, 6, (x, n) -> x.told(2, n));
    }

    private static void told(String what, MonsoonTrade x, int... due) {
        for (int i = 0; i < due.length; i++) {
            c.due(what + ": told " + i, x.told(0, i), due[i]);
        }
    }

    /** "(NONE: LOST)", "(NONE: it is in a PORT, LOST)", "(NONE: no VOYAGE)", "whether it is LOST (1, 0)" */
    private static void toldInPortAtSeaAndLost() {
        MonsoonTrade x = Scene.plain();
        told("in port", x, 0, -1, 20, 500, 0, -1, 0);
        x.begin(0);
        x.buy(0, 1, 2);
        x.buy(0, 3, 1);
        told("on a voyage in port", x, 0, -1, 20, 467, 3, 500, 0);
        x.sail(0, 1);
        told("at sea", x, 1, 6, 20, 467, 3, 500, 0);
        x.days(5);
        told("at sea, a day away", x, 1, 6, 20, 467, 3, 500, 0);
        x.days(1);
        told("come in", x, 1, -1, 20, 467, 3, 500, 0);
        x.sail(0, 0);
        told("at sea again", x, 0, 12, 20, 467, 3, 500, 0);
        x.lose(0);
        told("lost", x, -1, -1, 20, 0, 0, -1, 1);
        MonsoonTrade y = Scene.ports(0, 0);
        y.dhow(0, 1, 0);
        y.begin(0);
        c.due("a stake of 0 is a voyage", y.told(0, 5), 0);
    }

    private static void goodSides() {
        e.outside("dhow", Scene.BUSY, -2, 0, 3, (x, n) -> x.good(n, 0));
        e.outside("dhow", Scene.PLAIN, -2, 0, 0, (x, n) -> x.good(n, 0));
        e.outside("good", Scene.BUSY, -2, 0, 3, (x, n) -> x.good(0, n));
        e.outside("good of a lost one", Scene.BUSY, -2, 0, 3, (x, n) -> x.good(2, n));
        MonsoonTrade x = Scene.plain();
        for (int good = 0; good < 4; good++) {
            x.buy(0, good, 2 + good);
        }
        for (int good = 0; good < 4; good++) {
            c.due("of good " + good, x.good(0, good), 2 + good);
        }
    }

    // ---- promise 11

    /** "n of a GOOD (1 and more)" */
    private static void sellSides() {
        e.outside("dhow", Scene.BUSY, -2, 0, 3, (x, n) -> x.sell(n, 0, 1));
        e.outside("good", Scene.BUSY, -2, 0, 3, (x, n) -> x.sell(0, n, 1));
        e.refused("0 of it", Scene.BUSY, -2, x -> x.sell(0, 0, 0));
        e.refused("-1 of it", Scene.BUSY, -2, x -> x.sell(0, 0, -1));
        e.refused("far below", Scene.BUSY, -2, x -> x.sell(0, 0, Integer.MIN_VALUE));
        e.refused("BAD n ahead of STATE: it has none", Scene.PLAIN, -2, x -> x.sell(0, 0, 0));
        e.refused("BAD n ahead of STATE: at sea", Scene.BUSY, -2, x -> x.sell(1, 2, 0));
        e.refused("BAD good ahead of STATE: at sea", Scene.BUSY, -2, x -> x.sell(1, 4, 1));
        e.refused("BAD n ahead of STATE: lost", Scene.BUSY, -2, x -> x.sell(2, 0, 0));
        e.refused("BAD good ahead of STATE: lost", Scene.BUSY, -2, x -> x.sell(2, -1, 1));
    }

    /** "STATE: .. or has fewer" */
    private static void sellWhatIsAboard() {
        e.refused("one more than there is", Scene.BUSY, -3, x -> x.sell(0, 1, 5));
        e.refused("more than there is", Scene.BUSY, -3, x -> x.sell(0, 1, 100));
        e.refused("far more than there is", Scene.BUSY, -3, x -> x.sell(0, 1, Integer.MAX_VALUE));
        e.refused("of a good of which there is none", Scene.BUSY, -3, x -> x.sell(0, 3, 1));
        e.refused("as many of all goods together", Scene.BUSY, -3, x -> x.sell(0, 0, 2));
        MonsoonTrade x = Scene.busy();
        c.due("one", x.sell(0, 1, 1), 678 + 15);
        c.due("all that is left", x.sell(0, 1, 3), 693 + 45);
        c.due("none is left", x.good(0, 1), 0);
        c.due("one more", x.sell(0, 1, 1), -3);
        c.due("of the other good there is one", x.good(0, 0), 1);
        MonsoonTrade y = Scene.ports(0, 0);
        y.dhow(0, 99, 1089);
        y.buy(0, 2, 99);
        c.due("a hold of 99 at once", y.sell(0, 2, 99), 990);
    }

    /** "STATE: it is in no PORT" */
    private static void sellInNoPort() {
        e.refused("at sea", Scene.BUSY, -3, x -> x.sell(1, 2, 1));
        e.refused("lost", Scene.BUSY, -3, x -> x.sell(2, 0, 1));
        MonsoonTrade x = Scene.busy();
        x.days(6);
        c.due("a day away", x.sell(1, 2, 3), -3);
        x.days(1);
        c.due("come in: price 11 in port 0", x.sell(1, 2, 3), 343 + 33);
    }

    // ---- promise 12

    /** "n of a GOOD (1 .. 99)" */
    private static void buySides() {
        e.outside("dhow", Scene.BUSY, -2, 0, 3, (x, n) -> x.buy(n, 0, 1));
        e.outside("good", Scene.BUSY, -2, 0, 3, (x, n) -> x.buy(0, n, 1));
        e.outside("n", Scene.BUSY, -2, 1, 99, (x, n) -> x.buy(0, 0, n));
        e.outside("BAD n ahead of STATE: at sea", Scene.BUSY, -2, 1, 99, (x, n) -> x.buy(1, 0, n));
        e.outside("BAD n ahead of STATE: lost", Scene.BUSY, -2, 1, 99, (x, n) -> x.buy(2, 0, n));
        e.outside("BAD good ahead of STATE: at sea", Scene.BUSY, -2, 0, 3, (x, n) -> x.buy(1, n, 1));
        e.outside("BAD good ahead of STATE: lost", Scene.BUSY, -2, 0, 3, (x, n) -> x.buy(2, n, 1));
        e.refused("BAD n ahead of STATE: the hold does not let it", Scene.PLAIN, -2, x -> x.buy(0, 0, 100));
        MonsoonTrade x = Scene.ports(0, 0);
        x.dhow(0, 99, 99 * 11);
        x.dhow(0, 1, 11);
        c.due("greatest n", x.buy(0, 3, 99), 0);
        c.due("least n", x.buy(1, 0, 1), 0);
    }

    /** "a HOLD (.. of all GOODS together)"; "STATE: .. HOLD .. do not let it" */
    private static void buyWhatTheHoldLets() {
        e.due("as many as it holds", Scene.PLAIN, 500 - 220, x -> x.buy(0, 0, 20));
        e.refused("one more than it holds", Scene.PLAIN, -3, x -> x.buy(0, 0, 21));
        e.refused("99", Scene.PLAIN, -3, x -> x.buy(0, 0, 99));
        MonsoonTrade x = Scene.plain();
        x.buy(0, 0, 7);
        x.buy(0, 1, 6);
        x.buy(0, 2, 5);
        c.due("one more than all goods leave", x.buy(0, 3, 3), -3);
        c.due("as many as all goods leave", x.buy(0, 3, 2), 280);
        for (int good = 0; good < 4; good++) {
            c.due("one more when it is full", x.buy(0, good, 1), -3);
        }
        c.due("all aboard", x.told(0, 4), 20);
        x.sell(0, 1, 1);
        c.due("room for one again", x.buy(0, 0, 1), 279);
        c.due("one more of a good of which there were 7", x.good(0, 0), 8);
        c.due("least hold, two", leastHold().buy(0, 0, 2), -3);
        c.due("least hold, one", leastHold().buy(0, 0, 1), 89);
    }

    private static MonsoonTrade leastHold() {
        MonsoonTrade x = Scene.ports(0, 0);
        x.dhow(0, 1, 100);
        return x;
    }

    /** "PRICE and 1, for each"; "STATE: .. PURSE do not let it" */
    private static void buyWhatThePurseLets() {
        for (int purse = 54; purse <= 56; purse++) {
            MonsoonTrade x = Scene.ports(0, 0);
            x.dhow(0, 99, purse);
            c.due("5 at 11 by a purse of " + purse, x.buy(0, 0, 5), purse < 55 ? -3 : purse - 55);
            c.due("aboard by a purse of " + purse, x.good(0, 0), purse < 55 ? 0 : 5);
        }
        MonsoonTrade y = Scene.ports(0, 0);
        y.dhow(0, 99, 0);
        y.wants(0, 0, 1, 0);
        c.due("one at 2 by an empty purse", y.buy(0, 0, 1), -3);
        y.dhow(0, 99, 99999);
        y.wants(0, 1, 99, 0);
        c.due("99 at 100 by the greatest purse", y.buy(1, 1, 99), 99999 - 9900);
        e.refused("the purse lacks", Scene.BUSY, -3, x -> x.buy(3, 3, 5));
        e.due("the purse does not lack", Scene.BUSY, 100 - 4 * 22, x -> x.buy(3, 3, 4));
    }

    private static void buyInNoPort() {
        e.refused("at sea", Scene.BUSY, -3, x -> x.buy(1, 0, 1));
        e.refused("lost", Scene.BUSY, -3, x -> x.buy(2, 0, 1));
        MonsoonTrade x = Scene.busy();
        x.days(6);
        c.due("a day away", x.buy(1, 0, 1), -3);
        x.days(1);
        c.due("come in: 6 each in port 0", x.buy(1, 0, 1), 343 - 6);
    }

    // ---- promise 13

    private static void sailSides() {
        e.outside("dhow", Scene.BUSY, -2, 0, 3, (x, n) -> x.sail(n, 0));
        e.outside("port", Scene.BUSY, -2, 0, 3, (x, n) -> x.sail(0, n));
        e.outside("BAD port ahead of STATE: at sea", Scene.BUSY, -2, 0, 3, (x, n) -> x.sail(1, n));
        e.outside("BAD port ahead of STATE: lost", Scene.BUSY, -2, 0, 3, (x, n) -> x.sail(2, n));
        MonsoonTrade x = Scene.crowded();
        c.due("from the first to the last port", x.sail(0, 5), 33);
        c.due("from the last port but two to the first", x.sail(3, 0), 20);
    }

    /** "BAD: also the PORT in which it is" */
    private static void sailToWhereItIs() {
        e.refused("in port 1", Scene.BUSY, -2, x -> x.sail(0, 1));
        e.refused("new in port 0", Scene.PLAIN, -2, x -> x.sail(0, 0));
        e.due("to a port at the same place", () -> Scene.ports(5, 5, 5, 5), 1, x -> x.sail(x.dhow(0, 1, 0), 1));
    }

    /** "STATE: it is in none": what it sails to, and what it left, is not the PORT in which it is. */
    private static void sailInNoPort() {
        e.refused("at sea, to where it sails", Scene.BUSY, -3, x -> x.sail(1, 0));
        e.refused("at sea, to where it came from", Scene.BUSY, -3, x -> x.sail(1, 1));
        e.refused("at sea, to another", Scene.BUSY, -3, x -> x.sail(1, 3));
        for (int port = 0; port < 4; port++) {
            int to = port;
            e.refused("lost, to port " + port, Scene.BUSY, -3, x -> x.sail(2, to));
        }
        MonsoonTrade x = Scene.plain();
        x.sail(0, 1);
        x.days(5);
        c.due("a day away", x.sail(0, 0), -3);
        x.days(1);
        c.due("come in", x.sail(0, 0), 12);
    }

    /** "STATE: .. there is no WAY" */
    private static void sailWithoutAWay() {
        e.refused("against the wind", Scene.CALMED, -3, x -> x.sail(0, 1));
        e.refused("to itself against the wind: BAD", Scene.CALMED, -2, x -> x.sail(0, 0));
        e.refused("to none against the wind: BAD", Scene.CALMED, -2, x -> x.sail(0, 2));
        MonsoonTrade x = Scene.CALMED.get();
        c.due("leave is not taken", x.sail(0, 1), -3);
        c.due("nothing was heard", x.heard(0, 0, 0, -1), -1);
        x.days(29);
        c.due("last day of the month", x.sail(0, 1), -3);
        x.days(1);
        c.due("first day of the next", x.sail(0, 1), 36);
    }

    /** "THE WAY .. on a DAY" is that on THE DAY of leaving, whatever the wind does then. */
    private static void sailOnTheDay() {
        MonsoonTrade x = Scene.plain();
        x.wind(0, -1);
        x.wind(1, 2);
        x.days(29);
        c.due("leaves on day 29", x.sail(0, 1), 41);
        x.days(11);
        c.due("at sea on day 40", x.told(0, 1), 41);
        x.days(1);
        c.due("in port on day 41", x.told(0, 1), -1);
        MonsoonTrade y = Scene.plain();
        y.wind(0, -1);
        y.wind(1, 2);
        y.days(30);
        c.due("leaves on day 30", y.sail(0, 1), 33);
        MonsoonTrade z = Scene.onDay(360);
        z.wind(0, 2);
        c.due("month 0 comes round", z.sail(0, 1), 363);
    }

    private static void sailBeyondTheLastDay() {
        MonsoonTrade x = Scene.onDay(9993);
        c.due("comes on the last day", x.sail(0, 1), 9999);
        x.days(6);
        c.due("in port on the last day", x.told(0, 1), -1);
        MonsoonTrade y = Scene.onDay(9994);
        c.due("would come a day later", y.sail(0, 1), 10000);
        y.days(5);
        c.due("at sea on the last day", y.told(0, 1), 10000);
        c.due("no day more", y.days(1), -4);
        c.due("can be lost", y.lose(0), 1);
    }

    // ---- promise 14

    /** "n DAYS pass (1 .. 400)" */
    private static void daysSides() {
        e.outside("n", Scene.BUSY, -2, 1, 400, (x, n) -> x.days(n));
        e.due("least n", Scene.BUSY, 10, x -> x.days(1));
        e.due("greatest n", Scene.BUSY, 409, x -> x.days(400));
    }

    /** "FULL: beyond 9999" */
    private static void daysFull() {
        e.refused("beyond by one", Scene.LAST_DAY, -4, x -> x.days(1));
        e.refused("beyond by 400", Scene.LAST_DAY, -4, x -> x.days(400));
        e.outside("BAD ahead of FULL", Scene.LAST_DAY, -2, 1, 400, (x, n) -> x.days(n));
        e.refused("399 left, 400 asked", Scene.LATE_AT_SEA, -4, x -> x.days(400));
        MonsoonTrade x = Scene.LATE_AT_SEA.get();
        c.due("none of them passed", x.days(400), -4);
        c.due("still at sea", x.told(0, 1), 9606);
        c.due("399 left, 399 asked", x.days(399), 9999);
        c.due("come in", x.told(0, 1), -1);
        c.due("one more", x.days(1), -4);
        c.due("to the last day by 400", Scene.onDay(9599).days(400), 9999);
        c.due("to the last day by 1", Scene.onDay(9998).days(1), 9999);
        c.due("beyond it by 1 of 2", Scene.onDay(9998).days(2), -4);
    }

    /** "then DHOWS that come on it are in their PORTS" */
    private static void daysBringIn() {
        MonsoonTrade x = Scene.plain();
        x.dhow(1, 9, 9);
        x.sail(0, 1);
        x.days(1);
        x.sail(1, 0);
        x.days(4);
        c.due("day 5: 0 at sea", x.told(0, 1), 6);
        x.days(1);
        c.due("day 6: 0 in port", x.told(0, 1), -1);
        c.due("day 6: 1 at sea", x.told(1, 1), 7);
        x.days(1);
        c.due("day 7: 1 in port", x.told(1, 1), -1);
        MonsoonTrade y = Scene.plain();
        y.sail(0, 1);
        y.days(400);
        c.due("in port though days passed beyond", y.told(0, 1), -1);
        c.due("heard on the day on which it came", y.heard(0, 0, 1, -1), 6);
    }

    private static void daysOverYears() {
        MonsoonTrade x = Scene.onDay(359);
        x.wind(11, 1);
        x.wind(0, 2);
        c.due("month 11", x.way(0, 1, x.count(5)), 4);
        c.due("a new year", x.days(1), 360);
        c.due("month 0", x.way(0, 1, x.count(5)), 3);
    }

    // ---- promise 15

    private static void loseSides() {
        e.outside("dhow", Scene.BUSY, -2, 0, 3, (x, n) -> x.lose(n));
        e.outside("dhow", Scene.PLAIN, -2, 0, 0, (x, n) -> x.lose(n));
    }

    /** "STATE: it is in a PORT, or LOST" */
    private static void loseAtSeaAlone() {
        e.refused("in port", Scene.BUSY, -3, x -> x.lose(0));
        e.refused("new in port", Scene.PLAIN, -3, x -> x.lose(0));
        e.refused("lost", Scene.BUSY, -3, x -> x.lose(2));
        MonsoonTrade x = Scene.plain();
        x.sail(0, 1);
        c.due("on the day on which it left", x.lose(0), 1);
        MonsoonTrade y = Scene.plain();
        y.sail(0, 1);
        y.days(5);
        c.due("the day before it comes", y.lose(0), 1);
        MonsoonTrade z = Scene.plain();
        z.sail(0, 1);
        z.days(6);
        c.due("on the day on which it comes", z.lose(0), -3);
    }

    /** "GOODS and PURSE are gone"; it never comes. */
    private static void lostIsGone() {
        MonsoonTrade x = Scene.busy();
        c.due("lost", x.lose(1), 1);
        x.days(7);
        int[] due = {-1, -1, 30, 0, 0, -1, 1};
        for (int what = 0; what < due.length; what++) {
            c.due("told " + what, x.told(1, what), due[what]);
        }
        for (int good = 0; good < 4; good++) {
            c.due("good " + good, x.good(1, good), 0);
        }
        c.due("another one's purse", x.told(0, 3), 678);
        c.due("another one's goods", x.told(0, 4), 5);
        c.due("another one's voyage", x.told(0, 5), 690);
        c.due("the port has not heard of it", x.heard(1, 0, 1, -1), -1);
    }
}
