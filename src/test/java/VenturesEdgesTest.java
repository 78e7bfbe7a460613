/** The boundary cases of promises 17 to 19, and of what a loss does to ventures. */
public final class VenturesEdgesTest {
    private static final Check c = new Check("VenturesEdgesTest");
    private static final Edge e = new Edge(c);
    private static final int KINDS = 6, SHARE = 1, LOAN = 2;

    public static void main(String[] args) {
        ventureSides();
        ventureBadAheadOfState();
        ventureInNoPort();
        ventureOnAVoyage();
        loanThatThePurseLacks();
        ventureFull();
        ventureStateAheadOfFull();
        purseByKind();
        owedByKind();
        ventureToldSides();
        ventureToldAtFirst();
        onSides();
        onBadAheadOfState();
        onWhatDoesNotWait();
        onAnyDhowThatIsNotLost();
        onChangesTheDhowAlone();
        lossByKind();
        lossOfOneDhowAlone();
        lossOfALoanThatIsOver();
        lossOfALoanThatIsPartlyPaid();
        lossTwice();
        c.finish();
    }

    // ---- promise 17

    /** "an AMOUNT 1 .. 9999, PARTS 1 .. 9" */
    private static void ventureSides() {
        e.outside("kind", Scene.BUSY, -2, 0, 5, (x, n) -> x.venture(n, 3, 10, 1));
        e.outside("dhow", Scene.BUSY, -2, 0, 3, (x, n) -> x.venture(0, n, 10, 1));
        e.outside("dhow", Scene.PLAIN, -2, 0, 0, (x, n) -> x.venture(0, n, 10, 1));
        for (int kind = 0; kind < KINDS; kind++) {
            int k = kind;
            e.outside("amount of kind " + k, Scene.PLAIN, -2, 1, 9999, (x, n) -> x.venture(k, 0, n, 1));
            e.outside("parts of kind " + k, Scene.PLAIN, -2, 1, 9, (x, n) -> x.venture(k, 0, 10, n));
            MonsoonTrade x = Scene.ports(0, 0);
            x.dhow(0, 1, 99999);
            c.due("least of kind " + k, x.venture(k, 0, 1, 1), 0);
            c.due("greatest of kind " + k, x.venture(k, 0, 9999, 9), 1);
            c.due("kind", x.ventureTold(1, 0), k);
            c.due("least amount", x.ventureTold(0, 2), 1);
            c.due("least parts", x.ventureTold(0, 3), 1);
            c.due("greatest amount", x.ventureTold(1, 2), 9999);
            c.due("greatest parts", x.ventureTold(1, 3), 9);
        }
        MonsoonTrade rich = Scene.ports(0, 0);
        rich.dhow(0, 1, 99999);
        rich.venture(0, 0, 9999, 1);
        c.due("a purse may grow beyond 99999", rich.told(0, 3), 109998);
        e.due("on the last dhow", Scene.BUSY, 8, x -> x.venture(5, 3, 10, 1));
    }

    private static void ventureBadAheadOfState() {
        for (int dhow = 0; dhow < 3; dhow++) {
            int d = dhow;
            String where = d == 0 ? "on a voyage: " : d == 1 ? "at sea: " : "lost: ";
            e.outside(where + "kind", Scene.BUSY, -2, 0, 5, (x, n) -> x.venture(n, d, 10, 1));
            e.outside(where + "amount", Scene.BUSY, -2, 1, 9999, (x, n) -> x.venture(0, d, n, 1));
            e.outside(where + "parts", Scene.BUSY, -2, 1, 9, (x, n) -> x.venture(0, d, 10, n));
        }
        e.refused("the purse lacks: amount", Scene.PLAIN, -2, x -> x.venture(LOAN, 0, 10000, 1));
        e.refused("the purse lacks: parts", Scene.PLAIN, -2, x -> x.venture(LOAN, 0, 501, 10));
    }

    /** "STATE: the DHOW is in no PORT" */
    private static void ventureInNoPort() {
        for (int kind = 0; kind < KINDS; kind++) {
            int k = kind;
            e.refused("at sea, kind " + k, Scene.LATE_AT_SEA, -3, x -> x.venture(k, 0, 1, 1));
            e.refused("at sea on a voyage, kind " + k, Scene.BUSY, -3, x -> x.venture(k, 1, 1, 1));
            e.refused("lost, kind " + k, Scene.BUSY, -3, x -> x.venture(k, 2, 1, 1));
        }
    }

    /** "STATE: .. its VOYAGE began (not of SHARE)" */
    private static void ventureOnAVoyage() {
        for (int kind = 0; kind < KINDS; kind++) {
            int k = kind;
            if (k != SHARE) {
                e.refused("on a voyage, kind " + k, Scene.BUSY, -3, x -> x.venture(k, 0, 1, 1));
            }
        }
        MonsoonTrade x = Scene.busy();
        c.due("a share on a voyage", x.venture(SHARE, 0, 9999, 9), 8);
        c.due("it brings nothing", x.told(0, 3), 678);
        x.end(0);
        c.due("ended: a venture again", x.venture(0, 0, 1, 1), 9);
        x.begin(0);
        c.due("begun again: none", x.venture(0, 0, 1, 1), -3);
    }

    /** "of LOAN; refused, if it has not so much"; "STATE: .. the PURSE lacks" */
    private static void loanThatThePurseLacks() {
        e.refused("a coin too few", Scene.PLAIN, -3, x -> x.venture(LOAN, 0, 501, 1));
        e.refused("far too few", Scene.PLAIN, -3, x -> x.venture(LOAN, 0, 9999, 1));
        MonsoonTrade x = Scene.plain();
        c.due("just as many", x.venture(LOAN, 0, 500, 1), 0);
        c.due("the purse is empty", x.told(0, 3), 0);
        c.due("a loan of 1 by an empty purse", x.venture(LOAN, 0, 1, 1), -3);
        for (int kind = 0; kind < KINDS; kind++) {
            if (kind != LOAN) {
                c.due("others need no purse: kind " + kind, empty().venture(kind, 0, 9999, 1), 0);
            }
        }
    }

    private static MonsoonTrade empty() {
        MonsoonTrade x = Scene.ports(0, 0);
        x.dhow(0, 1, 0);
        return x;
    }

    /** "VENTURES (16) .. are numbered from 0 as they come"; "FULL" */
    private static void ventureFull() {
        MonsoonTrade x = Scene.plain();
        for (int i = 0; i < 16; i++) {
            c.due("none such yet", x.ventureTold(i, 0), -2);
            c.due("venture " + i, x.venture(i % KINDS, 0, 1 + i, 1), i);
            c.due("its amount", x.ventureTold(i, 2), 1 + i);
        }
        for (int kind = 0; kind < KINDS; kind++) {
            int k = kind;
            e.refused("a seventeenth, kind " + k, Scene.CROWDED, -4, y -> y.venture(k, 0, 1, 1));
            e.outside("BAD dhow ahead of FULL", Scene.CROWDED, -2, 0, 3, (y, n) -> y.venture(k, n, 1, 1));
            e.outside("BAD amount ahead of FULL", Scene.CROWDED, -2, 1, 9999, (y, n) -> y.venture(k, 0, n, 1));
            e.outside("BAD parts ahead of FULL", Scene.CROWDED, -2, 1, 9, (y, n) -> y.venture(k, 0, 1, n));
        }
        e.outside("BAD kind ahead of FULL", Scene.CROWDED, -2, 0, 5, (y, n) -> y.venture(n, 0, 1, 1));
        MonsoonTrade z = Scene.crowded();
        z.sail(0, 5);
        z.lose(0);
        c.due("full though some are over", z.venture(0, 1, 1, 1), -4);
    }

    private static void ventureStateAheadOfFull() {
        e.refused("the purse lacks", Scene.CROWDED, -3, x -> x.venture(LOAN, 0, 101, 1));
        e.refused("the purse does not lack", Scene.CROWDED, -4, x -> x.venture(LOAN, 0, 100, 1));
        MonsoonTrade x = Scene.crowded();
        x.begin(0);
        c.due("on a voyage", x.venture(0, 0, 1, 1), -3);
        c.due("a share on a voyage", x.venture(SHARE, 0, 1, 1), -4);
        x.sail(0, 5);
        c.due("at sea", x.venture(SHARE, 0, 1, 1), -3);
        x.lose(0);
        c.due("lost", x.venture(SHARE, 0, 1, 1), -3);
    }

    /** "the AMOUNT goes into the PURSE (of VENTURE, TRUST, SALE), or out of it (of LOAN ..), or into it (BOTTOM ..); of SHARE nothing" */
    private static void purseByKind() {
        int[] sign = {1, 0, -1, 1, 1, 1};
        for (int kind = 0; kind < KINDS; kind++) {
            for (int amount : new int[] {1, 500, 9999}) {
                MonsoonTrade x = Scene.ports(0, 0);
                x.dhow(0, 1, 9999);
                x.venture(kind, 0, amount, 1);
                c.due("purse by kind " + kind + ", amount " + amount, x.told(0, 3), 9999 + sign[kind] * amount);
            }
        }
    }

    /** "OWED is AMOUNT then"; "OWED is AMOUNT and its tenth, cut, then" */
    private static void owedByKind() {
        int[][] bottoms = {{1, 1}, {9, 9}, {10, 11}, {11, 12}, {19, 20}, {20, 22}, {99, 108}, {100, 110}, {9999, 10998}};
        for (int[] row : bottoms) {
            for (int kind = 0; kind < KINDS; kind++) {
                MonsoonTrade x = Scene.ports(0, 0);
                x.dhow(0, 1, 9999);
                x.venture(kind, 0, row[0], 1);
                int due = kind == 5 ? row[1] : kind == LOAN ? row[0] : 0;
                c.due("owed of kind " + kind + ", amount " + row[0], x.ventureTold(0, 4), due);
                c.due("amount of kind " + kind, x.ventureTold(0, 2), row[0]);
            }
        }
    }

    // ---- promise 18

    private static void ventureToldSides() {
        e.refused("none at all", Scene.NEW, -2, x -> x.ventureTold(0, 0));
        e.outside("venture", Scene.BUSY, -2, 0, 7, (x, n) -> x.ventureTold(n, 0));
        e.outside("venture", Scene.CROWDED, -2, 0, 15, (x, n) -> x.ventureTold(n, 0));
        e.outside("what", Scene.BUSY, -2, 0, 6, (x, n) -> x.ventureTold(0, n));
        e.outside("what of one that is over", Scene.BUSY, -2, 0, 6, (x, n) -> x.ventureTold(1, n));
    }

    private static void told(String what, MonsoonTrade x, int venture, int... due) {
        for (int i = 0; i < due.length; i++) {
            c.due(what + ": told " + i, x.ventureTold(venture, i), due[i]);
        }
    }

    /** "1 DHOW (NONE: it waits)", "5 whether it is over (1, 0)" */
    private static void ventureToldAtFirst() {
        MonsoonTrade x = Scene.busy();
        told("a loan that waits", x, 0, LOAN, -1, 70, 2, 70, 0, 0);
        told("over by a loss", x, 1, 0, 2, 30, 1, 0, 1, 0);
        told("a share", x, 2, SHARE, 0, 99, 2, 0, 0, 0);
        told("a loan", x, 3, LOAN, 0, 98, 3, 98, 0, 0);
        told("a trust", x, 4, 3, 0, 97, 4, 0, 0, 0);
        told("a sale", x, 5, 4, 0, 96, 5, 0, 0, 0);
        told("a bottom", x, 6, 5, 0, 95, 6, 104, 0, 0);
        told("a venture", x, 7, 0, 3, 10, 1, 0, 0, 0);
        told("the last", Scene.crowded(), 15, SHARE, 3, 16, 1, 0, 0, 0);
    }

    // ---- promise 19

    private static void onSides() {
        e.refused("none at all", Scene.NEW, -2, x -> x.on(0, 0));
        e.outside("venture", Scene.BUSY, -2, 0, 7, (x, n) -> x.on(n, 0));
        e.outside("dhow", Scene.BUSY, -2, 0, 3, (x, n) -> x.on(0, n));
        e.refused("a lost dhow", Scene.BUSY, -2, x -> x.on(0, 2));
        e.due("the first dhow", Scene.BUSY, 1, x -> x.on(0, 0));
        e.due("the last dhow", Scene.BUSY, 1, x -> x.on(0, 3));
    }

    private static void onBadAheadOfState() {
        for (int venture = 1; venture < 8; venture++) {
            int v = venture;
            e.outside("does not wait: dhow", Scene.BUSY, -2, 0, 3, (x, n) -> x.on(v, n));
            e.refused("does not wait: a lost dhow", Scene.BUSY, -2, x -> x.on(v, 2));
        }
    }

    /** "STATE: it does not wait": of whatever kind, over or not, also on the dhow that it is on. */
    private static void onWhatDoesNotWait() {
        for (int venture = 1; venture < 8; venture++) {
            int v = venture;
            e.refused("venture " + v + " on dhow 0", Scene.BUSY, -3, x -> x.on(v, 0));
            e.refused("venture " + v + " at sea", Scene.BUSY, -3, x -> x.on(v, 1));
            e.refused("venture " + v + " on dhow 3", Scene.BUSY, -3, x -> x.on(v, 3));
        }
        MonsoonTrade x = Scene.busy();
        x.on(0, 3);
        c.due("it waits no more", x.on(0, 3), -3);
        c.due("nor for another", x.on(0, 0), -3);
    }

    /** "is on a DHOW that is not LOST": in a port, at sea, on a voyage. */
    private static void onAnyDhowThatIsNotLost() {
        for (int dhow : new int[] {0, 1, 3}) {
            MonsoonTrade x = Scene.busy();
            c.due("on dhow " + dhow, x.on(0, dhow), 1);
            c.due("its dhow", x.ventureTold(0, 1), dhow);
        }
        MonsoonTrade y = Scene.plain();
        y.venture(LOAN, 0, 9, 1);
        y.sail(0, 1);
        y.lose(0);
        y.days(300);
        y.dhow(1, 1, 0);
        c.due("waits long, for one that came behind", y.on(0, 1), 1);
    }

    private static void onChangesTheDhowAlone() {
        MonsoonTrade x = Scene.busy();
        x.on(0, 3);
        told("the loan", x, 0, LOAN, 3, 70, 2, 70, 0, 0);
        c.due("no coins go", x.told(3, 3), 100);
        c.due("not over", x.count(8), 7);
    }

    // ---- what is lost

    /** "its VENTURES (of all KINDS but LOAN) are over, BOTTOMS are not paid; LOANS go on: they wait" */
    private static void lossByKind() {
        for (int kind = 0; kind < KINDS; kind++) {
            MonsoonTrade x = Scene.plain();
            x.venture(kind, 0, 100, 3);
            x.begin(0);
            x.sail(0, 1);
            c.due("at sea: not over", x.ventureTold(0, 5), 0);
            x.lose(0);
            int owed = kind == LOAN ? 100 : kind == 5 ? 110 : 0;
            told("lost, kind " + kind, x, 0, kind, kind == LOAN ? -1 : 0, 100, 3, owed, kind == LOAN ? 0 : 1, 0);
            c.due("open ones", x.count(8), kind == LOAN ? 1 : 0);
        }
    }

    private static void lossOfOneDhowAlone() {
        MonsoonTrade x = Scene.plain();
        x.dhow(0, 9, 200);
        for (int kind = 0; kind < KINDS; kind++) {
            x.venture(kind, 1, 10, 1);
            x.venture(kind, 0, 10, 1);
        }
        x.sail(0, 1);
        x.sail(1, 1);
        x.lose(0);
        for (int kind = 0; kind < KINDS; kind++) {
            c.due("of the other: over", x.ventureTold(2 * kind, 5), 0);
            c.due("of the other: its dhow", x.ventureTold(2 * kind, 1), 1);
            c.due("of the lost one: over", x.ventureTold(2 * kind + 1, 5), kind == LOAN ? 0 : 1);
        }
    }

    /** A LOAN that is paid is over: it does not wait. */
    private static void lossOfALoanThatIsOver() {
        MonsoonTrade x = Scene.plain();
        x.venture(LOAN, 0, 5, 1);
        x.begin(0);
        x.buy(0, 0, 1);
        x.wants(0, 0, 99, 0);
        x.sell(0, 0, 1);
        x.end(0);
        c.due("paid: over", x.ventureTold(0, 5), 1);
        x.sail(0, 1);
        x.lose(0);
        c.due("its dhow", x.ventureTold(0, 1), 0);
        c.due("still over", x.ventureTold(0, 5), 1);
        x.dhow(0, 1, 0);
        c.due("does not wait", x.on(0, 1), -3);
    }

    /** What is left of its OWED, and what it got, go on. */
    private static void lossOfALoanThatIsPartlyPaid() {
        MonsoonTrade x = Scene.plain();
        Check.text(x, "part 1;food 0;loan 30;");
        x.force(1);
        x.venture(LOAN, 0, 50, 4);
        x.begin(0);
        x.buy(0, 0, 1);
        x.wants(0, 0, 51, 0);
        x.sell(0, 0, 1);
        x.end(0);
        told("30 of 40 are paid", x, 0, LOAN, 0, 50, 4, 20, 0, 10);
        x.sail(0, 1);
        x.lose(0);
        told("it waits", x, 0, LOAN, -1, 50, 4, 20, 0, 10);
        x.dhow(0, 1, 0);
        x.on(0, 1);
        told("on another", x, 0, LOAN, 1, 50, 4, 20, 0, 10);
    }

    private static void lossTwice() {
        MonsoonTrade x = Scene.plain();
        x.dhow(0, 1, 0);
        x.venture(LOAN, 0, 50, 1);
        x.sail(0, 1);
        x.lose(0);
        x.sail(1, 1);
        c.due("on one at sea", x.on(0, 1), 1);
        x.lose(1);
        told("waits again", x, 0, LOAN, -1, 50, 1, 50, 0, 0);
        x.dhow(1, 1, 0);
        c.due("on a third", x.on(0, 2), 1);
    }
}
