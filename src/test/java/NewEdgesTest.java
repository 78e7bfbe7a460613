/** The boundary cases of promises 1 and 28: the empty object, the full one, and the last call. */
public final class NewEdgesTest {
    private static final Check c = new Check("NewEdgesTest");
    private static final Edge e = new Edge(c);

    public static void main(String[] args) {
        constants();
        nothingButTextZero();
        countSides();
        countsOfTheEmpty();
        countsOfTheFull();
        countsOfTheBusy();
        countOfTheLost();
        countOfWhatIsNotOver();
        lastCall();
        objectsShareNothing();
        c.finish();
    }

    /** "NONE is -1; NO, where a long is answered, -4611686018427387904. BAD (-2), STATE (-3), FULL (-4)" */
    private static void constants() {
        c.due("NONE", MonsoonTrade.NONE, -1);
        c.due("BAD", MonsoonTrade.BAD, -2);
        c.due("STATE", MonsoonTrade.STATE, -3);
        c.due("FULL", MonsoonTrade.FULL, -4);
        c.due("NO", MonsoonTrade.NO, -4611686018427387904L);
    }

    /** "Nothing but TEXT 0": the first number of each thing is none such yet. */
    private static void nothingButTextZero() {
        e.refused("no port: wants", Scene.NEW, -2, x -> x.wants(0, 0, 10, 0));
        e.refused("no port: price", Scene.NEW, -2, x -> x.price(0, 0));
        e.refused("no port: way", Scene.NEW, -2, x -> x.way(0, 1, 0));
        e.refused("no port: dhow", Scene.NEW, -2, x -> x.dhow(0, 1, 0));
        e.refused("no port: heard", Scene.NEW, -2, x -> x.heard(1, 0, 0, -1));
        e.refused("no dhow: told", Scene.NEW, -2, x -> x.told(0, 0));
        e.refused("no dhow: good", Scene.NEW, -2, x -> x.good(0, 0));
        e.refused("no dhow: sell", Scene.NEW, -2, x -> x.sell(0, 0, 1));
        e.refused("no dhow: buy", Scene.NEW, -2, x -> x.buy(0, 0, 1));
        e.refused("no dhow: sail", Scene.NEW, -2, x -> x.sail(0, 0));
        e.refused("no dhow: lose", Scene.NEW, -2, x -> x.lose(0));
        e.refused("no dhow: heard", Scene.NEW, -2, x -> x.heard(0, 0, 0, -1));
        e.refused("no dhow: venture", Scene.NEW, -2, x -> x.venture(0, 0, 1, 1));
        e.refused("no dhow: begin", Scene.NEW, -2, x -> x.begin(0));
        e.refused("no dhow: end", Scene.NEW, -2, x -> x.end(0));
        e.refused("no dhow: order", Scene.NEW, Edge.NO, x -> x.order(0, 1, 9999, 0));
        e.refused("no dhow: leg", Scene.NEW, -2, x -> x.leg(0, 1, 9999, 0));
        e.refused("no venture: ventureTold", Scene.NEW, -2, x -> x.ventureTold(0, 0));
        e.refused("no venture: on", Scene.NEW, -2, x -> x.on(0, 0));
        e.refused("no venture: taken", Scene.NEW, -11, x -> x.taken(0, 0));
        e.refused("no text 1: force", Scene.NEW, -2, x -> x.force(1));
        e.refused("no text 1: says", Scene.NEW, Edge.NO, x -> x.says(1, 0, 0, 0, 0, 0, 0));
        for (int sheet = 0; sheet < 4; sheet++) {
            int missing = sheet;
            e.refused("sheet is missing: cell " + sheet, Scene.NEW, -11, x -> x.cell(missing, 0, 0));
            e.refused("sheet is missing: winds " + sheet, Scene.NEW, -11, x -> x.winds(missing, 0, 0, 0));
        }
        e.due("text 0 is THE RULE", Scene.NEW, 0, x -> x.force(0));
        e.due("part of text 0", Scene.NEW, 9, x -> x.says(0, 0, 1, 2, 3, 9, 5));
        e.due("food of text 0", Scene.NEW, 6, x -> x.says(0, 1, 1, 2, 3, 9, 5));
        e.due("loan of text 0", Scene.NEW, 5, x -> x.says(0, 2, 1, 2, 3, 9, 5));
    }

    private static void countSides() {
        e.outside("count of", Scene.NEW, -2, 0, 8, (x, n) -> x.count(n));
        e.outside("count of", Scene.BUSY, -2, 0, 8, (x, n) -> x.count(n));
    }

    private static void counts(String what, MonsoonTrade x, int... due) {
        for (int i = 0; i < due.length; i++) {
            c.due(what + ": count of " + i, x.count(i), due[i]);
        }
    }

    private static void countsOfTheEmpty() {
        counts("new", new MonsoonTrade(), 0, 0, 0, 1, 0, 0, 0, 0, 0);
    }

    /** "PORTS (6 at most), DHOWS (4), VENTURES (16), TEXTS (6)", "THE TAPE (160 bytes at most)", "THE DAY (9999 at most)" */
    private static void countsOfTheFull() {
        counts("crowded", Scene.crowded(), 6, 4, 16, 6, 160, 0, 0, 0, 16);
        counts("last day", Scene.onDay(9999), 2, 1, 0, 1, 0, 9999, 0, 0, 0);
        MonsoonTrade x = Scene.crowded();
        x.force(5);
        counts("last rule", x, 6, 4, 16, 6, 160, 0, 5, 0, 16);
    }

    private static void countsOfTheBusy() {
        counts("busy", Scene.busy(), 4, 4, 8, 2, 9, 9, 1, 1, 7);
    }

    private static void countOfTheLost() {
        MonsoonTrade x = Scene.crowded();
        for (int dhow = 0; dhow < 4; dhow++) {
            c.due("none more is lost in a port", x.count(7), dhow);
            x.sail(dhow, 5);
            c.due("none more is lost at sea", x.count(7), dhow);
            x.lose(dhow);
            c.due("one more is lost", x.count(7), dhow + 1);
            c.due("its 4 ventures are over", x.count(8), 12 - 4 * dhow);
        }
        c.due("lost ones are counted", x.count(1), 4);
        c.due("ventures that are over are counted", x.count(2), 16);
    }

    /** "8 VENTURES that are not over": a LOAN that waits is not over. */
    private static void countOfWhatIsNotOver() {
        MonsoonTrade x = Scene.plain();
        x.venture(2, 0, 9, 1);
        x.sail(0, 1);
        x.lose(0);
        c.due("it waits", x.ventureTold(0, 1), -1);
        c.due("it is not over", x.count(8), 1);
    }

    /** "An object is used for at most 512 calls": the 512th is answered as the first. */
    private static void lastCall() {
        MonsoonTrade x = new MonsoonTrade();
        for (int call = 1; call <= 512; call++) {
            c.due("text in call " + call, x.text(), -100);
        }
        MonsoonTrade y = new MonsoonTrade();
        y.port(0, 0);
        y.dhow(0, 99, 99999);
        for (int call = 3; call < 512; call++) {
            c.due("day of call " + call, y.days(1), call - 2);
        }
        c.due("call 512", y.told(0, 3), 99999);
        MonsoonTrade z = Scene.plain();
        z.buy(0, 0, 1);
        for (int call = 5; call < 512; call += 2) {
            c.due("sold in call " + call, z.sell(0, 0, 1), 499 - (call - 5) / 2);
            c.due("bought in call " + (call + 1), z.buy(0, 0, 1), 488 - (call - 5) / 2);
        }
    }

    private static void objectsShareNothing() {
        MonsoonTrade before = new MonsoonTrade();
        Scene.busy();
        Scene.crowded();
        counts("made before", before, 0, 0, 0, 1, 0, 0, 0, 0, 0);
        MonsoonTrade after = Scene.ports(0, 0, 12, 0);
        counts("made after", after, 2, 0, 0, 1, 0, 0, 0, 0, 0);
        for (int month = 0; month < 12; month++) {
            c.due("calm in month " + month, after.way(0, 1, 30 * month), 6);
            c.due("calm in month " + month, after.way(1, 0, 30 * month), 6);
        }
        c.due("missing", after.cell(0, 0, 0), -11);
    }
}
