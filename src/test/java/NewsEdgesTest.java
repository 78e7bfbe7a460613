/** The boundary cases of promise 16: who has heard what of which port, and of which day. */
public final class NewsEdgesTest {
    private static final Check c = new Check("NewsEdgesTest");
    private static final Edge e = new Edge(c);

    public static void main(String[] args) {
        heardSides();
        noneIsHeard();
        lostHasNone();
        badAheadOfNone();
        ofItselfIsOfTheDay();
        heardOnComing();
        heardOnLeaving();
        nothingIsHeardLyingInPort();
        nothingIsHeardByARefusedSail();
        ofTheSameDayIsNotTaken();
        ofALaterDayIsTaken();
        ofAnEarlierDayIsNotTaken();
        dayZeroIsLaterThanNone();
        byNumbersOnOneDay();
        byDaysAheadOfNumbers();
        ofEveryPort();
        aWordStandsAsItWas();
        c.finish();
    }

    /** "a DHOW (who 0), a PORT (1)"; "what -1 its DAY, else PRICE of GOOD what" */
    private static void heardSides() {
        e.outside("who", Scene.BUSY, -2, 0, 1, (x, n) -> x.heard(n, 0, 0, -1));
        e.outside("dhow", Scene.BUSY, -2, 0, 3, (x, n) -> x.heard(0, n, 0, -1));
        e.outside("dhow where there are more ports", Scene.CROWDED, -2, 0, 3, (x, n) -> x.heard(0, n, 0, -1));
        e.outside("dhow where there are more ports", Scene.PLAIN, -2, 0, 0, (x, n) -> x.heard(0, n, 0, -1));
        e.outside("port", Scene.BUSY, -2, 0, 3, (x, n) -> x.heard(1, n, 0, -1));
        e.outside("port", Scene.CROWDED, -2, 0, 5, (x, n) -> x.heard(1, n, 0, -1));
        e.outside("port of which a dhow has", Scene.BUSY, -2, 0, 3, (x, n) -> x.heard(0, 0, n, -1));
        e.outside("port of which a port has", Scene.BUSY, -2, 0, 3, (x, n) -> x.heard(1, 0, n, -1));
        e.outside("what a dhow has", Scene.BUSY, -2, -1, 3, (x, n) -> x.heard(0, 0, 0, n));
        e.outside("what a port has", Scene.BUSY, -2, -1, 3, (x, n) -> x.heard(1, 0, 0, n));
        e.due("the day of a dhow's word", Scene.BUSY, 4, x -> x.heard(0, 0, 1, -1));
        e.due("good 0 of a dhow's word", Scene.BUSY, 12, x -> x.heard(0, 0, 1, 0));
        e.due("good 3 of a dhow's word", Scene.BUSY, 21, x -> x.heard(0, 0, 1, 3));
        e.due("the day of a port's word", Scene.BUSY, 0, x -> x.heard(1, 1, 0, -1));
        e.due("good 0 of a port's word", Scene.BUSY, 5, x -> x.heard(1, 1, 0, 0));
        e.due("good 3 of a port's word", Scene.BUSY, 14, x -> x.heard(1, 1, 0, 3));
        e.due("the last port of itself", Scene.CROWDED, 10, x -> x.heard(1, 5, 5, 3));
        e.due("the last dhow of the last port", Scene.CROWDED, -1, x -> x.heard(0, 3, 5, 3));
    }

    /** "NONE: it has none" */
    private static void noneIsHeard() {
        for (int what = -1; what < 4; what++) {
            int told = what;
            e.refused("a new dhow of its port", Scene.PLAIN, -1, x -> x.heard(0, 0, 0, told));
            e.refused("a new dhow of another port", Scene.PLAIN, -1, x -> x.heard(0, 0, 1, told));
            e.refused("a port of another", Scene.PLAIN, -1, x -> x.heard(1, 0, 1, told));
            e.refused("a dhow of a port to which none came", Scene.BUSY, -1, x -> x.heard(0, 0, 2, told));
        }
    }

    /** "NONE: .. the DHOW is LOST" */
    private static void lostHasNone() {
        MonsoonTrade x = Scene.plain();
        x.sail(0, 1);
        for (int what = -1; what < 4; what++) {
            c.due("at sea: what " + what, x.heard(0, 0, 0, what), what == -1 ? 0 : 10);
        }
        x.lose(0);
        for (int what = -1; what < 4; what++) {
            c.due("lost: what " + what, x.heard(0, 0, 0, what), -1);
            c.due("lost, of another: what " + what, x.heard(0, 0, 1, what), -1);
        }
    }

    private static void badAheadOfNone() {
        e.outside("what of a lost one", Scene.BUSY, -2, -1, 3, (x, n) -> x.heard(0, 2, 0, n));
        e.outside("port of a lost one", Scene.BUSY, -2, 0, 3, (x, n) -> x.heard(0, 2, n, -1));
        e.outside("what of one that has none", Scene.PLAIN, -2, -1, 3, (x, n) -> x.heard(0, 0, 1, n));
        e.outside("what of a port that has none", Scene.PLAIN, -2, -1, 3, (x, n) -> x.heard(1, 0, 1, n));
    }

    /** "Of itself a PORT's WORD is always of THE DAY" */
    private static void ofItselfIsOfTheDay() {
        MonsoonTrade x = Scene.plain();
        c.due("day 0", x.heard(1, 0, 0, -1), 0);
        c.due("price", x.heard(1, 0, 0, 2), 10);
        x.wants(0, 2, 40, 9);
        c.due("price of the same day", x.heard(1, 0, 0, 2), 40);
        x.days(1);
        c.due("day 1", x.heard(1, 0, 0, -1), 1);
        x.buy(0, 2, 5);
        x.sell(0, 2, 5);
        c.due("price when 5 are landed", x.heard(1, 0, 0, 2), 36);
        x.days(400);
        c.due("day 401", x.heard(1, 0, 0, -1), 401);
        c.due("of another it has none", x.heard(1, 0, 1, -1), -1);
        c.due("the last day", Scene.onDay(9999).heard(1, 1, 1, -1), 9999);
    }

    /** "When a DHOW comes to a PORT .. each of both gets, of each PORT, the WORD of the other one" */
    private static void heardOnComing() {
        MonsoonTrade x = Scene.plain();
        x.sail(0, 1);
        x.days(5);
        x.wants(1, 0, 33, 0);
        x.wants(0, 0, 22, 0);
        c.due("the day before: the dhow of the port", x.heard(0, 0, 1, -1), -1);
        c.due("the day before: the port of the other", x.heard(1, 1, 0, -1), -1);
        x.days(1);
        c.due("the dhow of the port", x.heard(0, 0, 1, -1), 6);
        c.due("its price on that day", x.heard(0, 0, 1, 0), 33);
        c.due("the port of the other", x.heard(1, 1, 0, -1), 0);
        c.due("its price on the day on which it left", x.heard(1, 1, 0, 0), 10);
        c.due("the port that it left has none of this", x.heard(1, 0, 1, -1), -1);
    }

    /** "and when it leaves one (ahead of it)": with what its own buying and selling made of the prices. */
    private static void heardOnLeaving() {
        MonsoonTrade x = Scene.plain();
        x.days(3);
        x.wants(0, 1, 50, 9);
        x.buy(0, 1, 9);
        x.sell(0, 1, 9);
        c.due("lying there", x.heard(0, 0, 0, 1), -1);
        x.sail(0, 1);
        c.due("its day", x.heard(0, 0, 0, -1), 3);
        c.due("its price", x.heard(0, 0, 0, 1), 42);
        x.days(1);
        c.due("its day, at sea", x.heard(0, 0, 0, -1), 3);
    }

    private static void nothingIsHeardLyingInPort() {
        MonsoonTrade x = Scene.plain();
        x.dhow(1, 9, 9);
        x.sail(0, 1);
        x.days(6);
        c.due("the port has it of the one that came", x.heard(1, 1, 0, -1), 0);
        c.due("the one that lies there has not", x.heard(0, 1, 0, -1), -1);
        c.due("nor of the port itself", x.heard(0, 1, 1, -1), -1);
        x.days(3);
        x.sail(1, 0);
        c.due("it has when it leaves", x.heard(0, 1, 0, -1), 0);
        c.due("and of the port itself", x.heard(0, 1, 1, -1), 9);
    }

    private static void nothingIsHeardByARefusedSail() {
        MonsoonTrade x = Scene.plain();
        x.wind(0, -2);
        x.sail(0, 1);
        x.sail(0, 0);
        x.sail(0, 2);
        c.due("not left", x.heard(0, 0, 0, -1), -1);
    }

    /** A dhow that comes and goes between two ports of calm sea, 1 day apart. */
    private static MonsoonTrade near() {
        MonsoonTrade x = Scene.ports(0, 0, 0, 2);
        x.dhow(0, 9, 99);
        x.sail(0, 1);
        x.days(1);
        return x;
    }

    /** "if that is of a later DAY": one of the same DAY is not. */
    private static void ofTheSameDayIsNotTaken() {
        MonsoonTrade x = near();
        x.wants(1, 0, 70, 0);
        x.sail(0, 0);
        c.due("left on the day on which it came", x.heard(0, 0, 1, 0), 10);
        c.due("its day", x.heard(0, 0, 1, -1), 1);
        x.days(1);
        c.due("so the other port hears", x.heard(1, 0, 1, 0), 10);
    }

    private static void ofALaterDayIsTaken() {
        MonsoonTrade x = near();
        x.wants(1, 0, 70, 0);
        x.days(1);
        x.sail(0, 0);
        c.due("left a day later", x.heard(0, 0, 1, 0), 70);
        c.due("its day", x.heard(0, 0, 1, -1), 2);
        x.days(1);
        c.due("so the other port hears", x.heard(1, 0, 1, 0), 70);
    }

    private static void ofAnEarlierDayIsNotTaken() {
        MonsoonTrade x = Scene.ports(0, 0, 0, 2, 0, 40);
        x.dhow(0, 9, 99);
        x.dhow(0, 9, 99);
        x.sail(1, 2);
        x.days(5);
        x.wants(0, 0, 70, 0);
        x.sail(0, 1);
        x.days(1);
        x.sail(0, 2);
        x.days(14);
        c.due("1 has come with day 0", x.heard(1, 2, 0, -1), 0);
        x.days(5);
        c.due("0 has come with day 5", x.heard(1, 2, 0, -1), 5);
        c.due("its price", x.heard(1, 2, 0, 0), 70);
        c.due("1 lies there with day 0", x.heard(0, 1, 0, -1), 0);
        x.sail(1, 1);
        c.due("1 leaves with day 5", x.heard(0, 1, 0, -1), 5);
        c.due("the port keeps day 5", x.heard(1, 2, 0, -1), 5);
    }

    private static void dayZeroIsLaterThanNone() {
        MonsoonTrade x = Scene.plain();
        x.sail(0, 1);
        c.due("of day 0", x.heard(0, 0, 0, -1), 0);
        x.days(6);
        c.due("of day 0 on day 6", x.heard(1, 1, 0, -1), 0);
    }

    /** "DHOWS that come on it are in their PORTS, by numbers" */
    private static void byNumbersOnOneDay() {
        MonsoonTrade x = Scene.ports(0, 0, 0, 4, 0, 8);
        x.dhow(0, 9, 9);
        x.dhow(2, 9, 9);
        x.sail(1, 1);
        x.sail(0, 1);
        x.days(2);
        c.due("0 came ahead: has nothing of 1", x.heard(0, 0, 2, -1), -1);
        c.due("1 came behind: has it of 0", x.heard(0, 1, 0, -1), 0);
        c.due("the port has both", x.heard(1, 1, 0, -1), 0);
        c.due("the port has both", x.heard(1, 1, 2, -1), 0);
    }

    private static void byDaysAheadOfNumbers() {
        MonsoonTrade x = Scene.ports(0, 0, 0, 6, 0, 10);
        x.dhow(0, 9, 9);
        x.dhow(2, 9, 9);
        x.sail(0, 1);
        x.sail(1, 1);
        x.days(3);
        c.due("1 came ahead: has nothing of 0", x.heard(0, 1, 0, -1), -1);
        c.due("0 came behind: has it of 1", x.heard(0, 0, 2, -1), 0);
    }

    /** "of each PORT": the last of six goes with the others. */
    private static void ofEveryPort() {
        MonsoonTrade x = Scene.ports(0, 0, 0, 2, 0, 4, 0, 6, 0, 8, 0, 10);
        x.dhow(5, 9, 9);
        for (int port = 4; port >= 0; port--) {
            x.sail(0, port);
            x.days(1);
        }
        for (int port = 0; port < 6; port++) {
            c.due("the dhow of port " + port, x.heard(0, 0, port, -1), port == 0 ? 5 : port == 5 ? 0 : 5 - port);
            c.due("the first port of port " + port, x.heard(1, 0, port, -1), 5 - port);
            c.due("the fourth port of port " + port, x.heard(1, 3, port, -1), port == 3 ? 5 : port > 3 ? 5 - port : -1);
        }
    }

    private static void aWordStandsAsItWas() {
        MonsoonTrade x = Scene.plain();
        x.wants(0, 3, 99, 0);
        x.sail(0, 1);
        x.wants(0, 3, 1, 0);
        x.days(400);
        c.due("the dhow's", x.heard(0, 0, 0, 3), 99);
        c.due("the port's", x.heard(1, 1, 0, 3), 99);
        c.due("its day", x.heard(1, 1, 0, -1), 0);
    }
}
