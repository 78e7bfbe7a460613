/** The boundary cases of promises 20 and 21: a voyage's begin, and how its end parts what there is. */
public final class VoyagesEdgesTest {
    private static final Check c = new Check("VoyagesEdgesTest");
    private static final Edge e = new Edge(c);
    private static final int VENTURE = 0, SHARE = 1, LOAN = 2, TRUST = 3, SALE = 4, BOTTOM = 5;
    /** A rule by which nothing goes out but what stands in its place. */
    private static final String NO_FOOD = "part parts;food 0;loan owed;";

    public static void main(String[] args) {
        beginSides();
        beginInNoPort();
        beginTwice();
        stakeIsThePurse();
        endSides();
        endWithoutBegin();
        endTwice();
        gain();
        gainBeyondWhatIsAsked();
        men();
        menOfOthers();
        days();
        month();
        foodIsHeldInThePurse();
        foodAsksForNoPartsOrOwed();
        bottomsByNumbers();
        bottomsAheadOfTheRest();
        restIsZeroAtLeast();
        restIsWhatFoodLeaves();
        weightIsZeroAtLeast();
        weightsOfZero();
        weightOfATrust();
        weightOfASale();
        weightByTheGainAheadOfFood();
        weightByOwnPartsAndOwed();
        weightsBeyondAnInt();
        dueIsCut();
        loanIsZeroAtLeast();
        loanIsAtMostDue();
        loanIsAtMostOwed();
        loanByItsOwed();
        saleIsItsAmount();
        whatIsThereAtMost();
        whoIsOver();
        theNextVoyage();
        ofOneDhowAlone();
        aLoanThatWaited();
        sixteenOfThem();
        c.finish();
    }

    // ---- scenes

    private static int[] of(int kind, int amount, int parts) {
        return new int[] {kind, amount, parts};
    }

    /**
     * A dhow in port 0 that may begin with this stake, 20 of good 0 and room for 20 more aboard, the ventures
     * on it and the text in force.
     */
    private static MonsoonTrade ready(String rule, int stake, int[]... ventures) {
        MonsoonTrade x = Scene.ports(0, 0, 0, 2);
        c.due("text " + rule, Check.text(x, rule), 1);
        x.force(1);
        int brought = 0;
        for (int[] v : ventures) {
            brought += v[0] == SHARE ? 0 : v[0] == LOAN ? -v[1] : v[1];
        }
        x.wants(0, 0, 1, 0);
        c.due("dhow", x.dhow(0, 40, stake + 40 - brought), 0);
        for (int i = 0; i < ventures.length; i++) {
            c.due("venture", x.venture(ventures[i][0], 0, ventures[i][1], ventures[i][2]), i);
        }
        x.buy(0, 0, 20);
        return x;
    }

    private static MonsoonTrade begun(String rule, int stake, int[]... ventures) {
        MonsoonTrade x = ready(rule, stake, ventures);
        c.due("stake", x.begin(0), stake);
        return x;
    }

    /** Trade that brings so many coins, of the 20 aboard; below 0, that costs them. */
    private static void trade(MonsoonTrade x, int coins) {
        int due = x.told(0, 3) + coins;
        if (coins == -1) {
            x.buy(0, 0, 1);
            c.due("trade", x.sell(0, 0, 1), due);
            return;
        }
        int all = Math.abs(coins);
        for (int n = 1; n <= 20 && all > 0; n++) {
            int each = all / n;
            if (all % n == 0 && each <= 99) {
                int good = coins > 0 ? 0 : 1;
                x.wants(0, good, coins > 0 ? each : each - 1, 0);
                c.due("trade", coins > 0 ? x.sell(0, good, n) : x.buy(0, good, n), due);
                return;
            }
        }
        c.due("coins that trade can't bring", all, 0);
    }

    private static void ends(String what, MonsoonTrade x, int purse) {
        c.due(what + ": end", x.end(0), purse);
        c.due(what + ": purse", x.told(0, 3), purse);
        c.due(what + ": no stake", x.told(0, 5), -1);
    }

    private static void venture(String what, MonsoonTrade x, int venture, int got, int owed, int over) {
        c.due(what + ": got by " + venture, x.ventureTold(venture, 6), got);
        c.due(what + ": owed by " + venture, x.ventureTold(venture, 4), owed);
        c.due(what + ": over of " + venture, x.ventureTold(venture, 5), over);
    }

    // ---- promise 20

    private static void beginSides() {
        e.refused("none at all", Scene.NEW, -2, x -> x.begin(0));
        e.outside("dhow", Scene.BUSY, -2, 0, 3, (x, n) -> x.begin(n));
        e.outside("dhow", Scene.PLAIN, -2, 0, 0, (x, n) -> x.begin(n));
        e.due("the last dhow", Scene.BUSY, 100, x -> x.begin(3));
    }

    private static void beginInNoPort() {
        e.refused("at sea", Scene.LATE_AT_SEA, -3, x -> x.begin(0));
        e.refused("at sea on a voyage", Scene.BUSY, -3, x -> x.begin(1));
        e.refused("lost", Scene.BUSY, -3, x -> x.begin(2));
    }

    /** "STATE: .. or it began": stake and the day of its begin stay. */
    private static void beginTwice() {
        e.refused("it began", Scene.BUSY, -3, x -> x.begin(0));
        MonsoonTrade x = begun("part 0;food days;loan 0;", 100);
        x.days(5);
        trade(x, 7);
        c.due("again", x.begin(0), -3);
        c.due("its stake", x.told(0, 5), 100);
        ends("5 days of food", x, 102);
        c.due("ended: again", x.begin(0), 102);
    }

    private static void stakeIsThePurse() {
        for (int stake : new int[] {0, 1, 99999}) {
            MonsoonTrade x = Scene.ports(0, 0);
            x.dhow(0, 1, stake);
            c.due("no voyage", x.told(0, 5), -1);
            c.due("stake", x.begin(0), stake);
            c.due("stake told", x.told(0, 5), stake);
            c.due("ends with it", x.end(0), stake);
            c.due("no voyage", x.told(0, 5), -1);
        }
    }

    // ---- promise 21

    private static void endSides() {
        e.refused("none at all", Scene.NEW, -2, x -> x.end(0));
        e.outside("dhow", Scene.BUSY, -2, 0, 3, (x, n) -> x.end(n));
        e.outside("dhow", Scene.PLAIN, -2, 0, 0, (x, n) -> x.end(n));
        e.refused("at sea on a voyage", Scene.BUSY, -3, x -> x.end(1));
        e.refused("at sea on none", Scene.LATE_AT_SEA, -3, x -> x.end(0));
        e.refused("lost", Scene.BUSY, -3, x -> x.end(2));
    }

    private static void endWithoutBegin() {
        e.refused("did not begin", Scene.BUSY, -3, x -> x.end(3));
        e.refused("did not begin", Scene.PLAIN, -3, x -> x.end(0));
    }

    private static void endTwice() {
        MonsoonTrade x = begun(NO_FOOD, 100, of(SHARE, 1, 1));
        trade(x, 10);
        ends("once", x, 100);
        c.due("twice", x.end(0), -3);
        venture("not again", x, 0, 10, 0, 0);
    }

    // ---- what the rule is asked with

    /** "GAIN: the PURSE less STAKE" */
    private static void gain() {
        for (int coins : new int[] {1, 90, 0, -1, -90}) {
            MonsoonTrade x = begun("part 0;food gain;loan 0;", 100);
            trade(x, coins);
            ends("gain " + coins, x, Math.min(100, 100 + coins));
            MonsoonTrade y = begun("part 0;food -gain;loan 0;", 100);
            trade(y, coins);
            ends("loss " + coins, y, coins < 0 ? 100 + 2 * coins < 0 ? 0 : 100 + 2 * coins : 100 + coins);
        }
    }

    /** says takes a gain of 100000 at most; a voyage may have a greater one. */
    private static void gainBeyondWhatIsAsked() {
        MonsoonTrade x = Scene.ports(0, 0);
        Check.text(x, "part 0;food gain-10*9999;loan 0;");
        x.force(1);
        x.dhow(0, 99, 1000);
        x.begin(0);
        for (int i = 0; i < 11; i++) {
            x.wants(0, 0, 1, 0);
            x.buy(0, 0, 99);
            x.wants(0, 0, 99, 0);
            x.sell(0, 0, 99);
        }
        c.due("purse", x.told(0, 3), 1000 + 11 * 99 * 97);
        c.due("food of a gain of 105633", x.end(0), 1000 + 99990);
    }

    /** What goes out of the purse by the voyage's end. */
    private static int goesOut(MonsoonTrade x) {
        int before = x.told(0, 3);
        return before - x.end(0);
    }

    /** "how many SHARES, LOANS (not BOTTOMS) that are not over the DHOW has" */
    private static void men() {
        // a sale and a bottom of 1 get that, beside what food takes
        int[] goesOut = {0, 7, 7, 0, 1, 1};
        for (int kind = 0; kind < 6; kind++) {
            MonsoonTrade x = begun("part 0;food 7*men;loan 0;", 200, of(kind, 1, 1));
            c.due("men of kind " + kind, goesOut(x), goesOut[kind]);
        }
        c.due("no men", goesOut(begun("part 0;food 7*men;loan 0;", 200)), 0);
        MonsoonTrade x = begun("part 0;food 7*men;loan 0;", 200, of(SHARE, 1, 1), of(LOAN, 5, 1), of(SHARE, 1, 1));
        c.due("three men", goesOut(x), 21);
        x.begin(0);
        x.venture(SHARE, 0, 1, 1);
        c.due("a fourth comes on the voyage", goesOut(x), 28);
    }

    private static void menOfOthers() {
        MonsoonTrade x = begun("part 0;food 7*men;loan owed;", 200, of(SHARE, 1, 1));
        x.dhow(0, 1, 50);
        x.dhow(0, 1, 50);
        x.venture(SHARE, 1, 1, 1);
        x.venture(LOAN, 2, 9, 1);
        x.sail(2, 1);
        x.lose(2);
        c.due("not of another, not a loan that waits", goesOut(x), 7);
        MonsoonTrade y = begun("part parts;food 7*men;loan owed;", 200, of(LOAN, 5, 1));
        trade(y, 20);
        c.due("food of a loan, that is paid then", goesOut(y), 7 + 8);
        c.due("over", y.ventureTold(0, 5), 1);
        y.begin(0);
        c.due("not one that is over", goesOut(y), 0);
    }

    /** "days: DAYS since it began" */
    private static void days() {
        for (int days : new int[] {0, 1, 29, 30, 400}) {
            MonsoonTrade x = ready("part 0;food days;loan 0;", 1000);
            x.days(13);
            x.begin(0);
            if (days > 0) {
                x.days(days);
            }
            c.due("food of " + days + " days", goesOut(x), days);
        }
        MonsoonTrade y = ready("part 0;food days;loan 0;", 20000);
        y.begin(0);
        for (int i = 0; i < 24; i++) {
            y.days(400);
        }
        y.days(399);
        c.due("food of 9999 days", goesOut(y), 9999);
    }

    /** "month: that of THE DAY": on which it ends. */
    private static void month() {
        int[][] rows = {{1, 0}, {29, 0}, {30, 1}, {59, 1}, {60, 2}, {329, 10}, {330, 11}, {359, 11}, {360, 0}, {390, 1}};
        for (int[] row : rows) {
            MonsoonTrade x = begun("part 0;food month;loan 0;", 1000);
            x.days(row[0]);
            c.due("month of day " + row[0], goesOut(x), row[1]);
        }
        MonsoonTrade y = ready("part 0;food month;loan 0;", 1000);
        y.days(330);
        y.begin(0);
        y.days(31);
        c.due("begun in month 11, ended in month 0", goesOut(y), 0);
    }

    // ---- "each number being held between 0 and what is in the PURSE"

    private static void foodIsHeldInThePurse() {
        String[] foods = {"0-1", "-9999*9999", "0", "1", "99", "100", "101", "9999", "9999*9999*21", "9999*9999*30", "9999*9999*50"};
        int[] due = {100, 100, 100, 99, 1, 0, 0, 0, 0, 100, 0};
        for (int i = 0; i < foods.length; i++) {
            ends("food " + foods[i], begun("part parts;food " + foods[i] + ";loan 0;", 100), due[i]);
        }
        ends("food of an empty purse", begun("part parts;food 1;loan 0;", 0), 0);
        ends("no food of an empty purse", begun("part parts;food 0-1;loan 0;", 0), 0);
    }

    /** "food of THE RULE (parts, owed 0)" */
    private static void foodAsksForNoPartsOrOwed() {
        String rule = "part 0;food 5+parts+10*owed;loan 0;";
        MonsoonTrade x = begun(rule, 100, of(SHARE, 1, 9), of(LOAN, 50, 9));
        x.says(1, 1, 0, 0, 0, 9, 99);
        ends("food", x, 95);
        x.begin(0);
        ends("food of the next voyage", x, 90);
    }

    /** "Each BOTTOM, by numbers, is paid its OWED, and is over" */
    private static void bottomsByNumbers() {
        MonsoonTrade x = begun(NO_FOOD, 100, of(BOTTOM, 40, 1), of(BOTTOM, 40, 1), of(BOTTOM, 40, 1));
        ends("44, 44, and 12 that are left", x, 0);
        venture("first", x, 0, 44, 44, 1);
        venture("second", x, 1, 44, 44, 1);
        venture("third, of which 32 are not paid", x, 2, 12, 44, 1);
        MonsoonTrade y = begun(NO_FOOD, 44, of(BOTTOM, 40, 1), of(BOTTOM, 1, 1));
        ends("just as much as is owed", y, 0);
        venture("paid", y, 0, 44, 44, 1);
        venture("nothing is left", y, 1, 0, 1, 1);
        c.due("none is open", y.count(8), 0);
        MonsoonTrade z = begun("part 0;food 90;loan 0;", 100, of(BOTTOM, 40, 1));
        ends("food ahead of bottoms", z, 0);
        venture("what food left", z, 0, 10, 44, 1);
        MonsoonTrade w = begun(NO_FOOD, 45, of(BOTTOM, 40, 1));
        ends("out of the stake, too", w, 1);
    }

    private static void bottomsAheadOfTheRest() {
        MonsoonTrade x = begun(NO_FOOD, 100, of(VENTURE, 9, 1), of(SALE, 30, 1), of(BOTTOM, 50, 1));
        trade(x, 60);
        // the bottom's 55 go ahead of all: 5 are left of the gain
        ends("bottom", x, 100 - 30);
        venture("venture", x, 0, 5, 0, 1);
        venture("sale", x, 1, 30, 0, 1);
        venture("bottom", x, 2, 55, 55, 1);
        MonsoonTrade y = begun(NO_FOOD, 50, of(VENTURE, 9, 1), of(SALE, 30, 1), of(BOTTOM, 50, 1));
        ends("nothing is left for the sale", y, 0);
        venture("sale", y, 1, 0, 0, 1);
    }

    // ---- "REST: what is left of the PURSE beyond STAKE (0 at least)"

    private static void restIsZeroAtLeast() {
        for (int coins : new int[] {-90, -1, 0, 1, 2}) {
            MonsoonTrade x = begun(NO_FOOD, 100, of(SHARE, 1, 1));
            trade(x, coins);
            ends("rest of " + coins, x, Math.min(100, 100 + coins));
            venture("rest of " + coins, x, 0, Math.max(0, coins), 0, 0);
        }
        MonsoonTrade y = begun(NO_FOOD, 0, of(SHARE, 1, 1));
        trade(y, 33);
        ends("beyond a stake of 0", y, 0);
        venture("all of it", y, 0, 33, 0, 0);
    }

    private static void restIsWhatFoodLeaves() {
        for (int food = 8; food <= 12; food++) {
            MonsoonTrade x = begun("part parts;food " + food + ";loan 0;", 100, of(SHARE, 1, 1));
            trade(x, 10);
            ends("food " + food + " of 10", x, food < 10 ? 100 : 110 - food);
            venture("food " + food + " of 10", x, 0, food < 10 ? 10 - food : 0, 0, 0);
        }
    }

    // ---- WEIGHTS

    /** "part of THE RULE (0 at least ..)" */
    private static void weightIsZeroAtLeast() {
        MonsoonTrade x = begun("part parts-3;food 0;loan 0;", 100, of(SHARE, 1, 1), of(SHARE, 1, 5), of(SHARE, 1, 3), of(SHARE, 1, 4));
        trade(x, 30);
        // -2 is held at 0, not taken from the 3 of all together
        ends("weights -2, 2, 0, 1", x, 100);
        venture("-2", x, 0, 0, 0, 0);
        venture("2", x, 1, 20, 0, 0);
        venture("0", x, 2, 0, 0, 0);
        venture("1", x, 3, 10, 0, 0);
        MonsoonTrade y = begun("part parts-4;food 0;loan 0;", 100, of(TRUST, 1, 1), of(SHARE, 1, 5));
        trade(y, 30);
        ends("a trust's -3", y, 100);
        venture("a trust's -3", y, 0, 0, 0, 1);
        venture("1", y, 1, 30, 0, 0);
    }

    /** "(cut; 0 if W is 0)" */
    private static void weightsOfZero() {
        MonsoonTrade x = begun("part 0;food 0;loan owed;", 100, of(VENTURE, 1, 1), of(SHARE, 1, 1), of(LOAN, 5, 1), of(TRUST, 1, 1), of(SALE, 7, 1));
        trade(x, 30);
        ends("all weights 0", x, 130 - 7);
        venture("venture", x, 0, 0, 0, 1);
        venture("share", x, 1, 0, 0, 0);
        venture("loan", x, 2, 0, 5, 0);
        venture("trust", x, 3, 0, 0, 1);
        venture("sale", x, 4, 7, 0, 1);
        MonsoonTrade y = begun("part 0-9999;food 0;loan owed;", 100, of(SHARE, 1, 1));
        trade(y, 30);
        ends("all weights below 0", y, 130);
        MonsoonTrade z = begun(NO_FOOD, 100);
        trade(z, 30);
        ends("no ventures at all", z, 130);
        MonsoonTrade w = begun(NO_FOOD, 100, of(TRUST, 9, 1));
        trade(w, 30);
        ends("half of 1, cut, is 0", w, 130);
        venture("half of 1, cut, is 0", w, 0, 0, 0, 1);
    }

    /** "of a TRUST half of that (cut)" */
    private static void weightOfATrust() {
        int[] due = {0, 0, 15, 15, 20, 20};
        for (int parts = 1; parts <= 5; parts++) {
            MonsoonTrade x = begun(NO_FOOD, 100, of(TRUST, 9, parts), of(SHARE, 1, 1));
            trade(x, 30);
            ends("a trust of " + parts, x, 100);
            venture("a trust of " + parts, x, 0, due[parts], 0, 1);
            venture("a share by it", x, 1, 30 - due[parts], 0, 0);
        }
    }

    /** "of a SALE 0" */
    private static void weightOfASale() {
        MonsoonTrade x = begun(NO_FOOD, 100, of(SALE, 11, 9), of(SHARE, 1, 1));
        trade(x, 30);
        ends("a sale has no weight", x, 100 - 11);
        venture("sale", x, 0, 11, 0, 1);
        venture("share", x, 1, 30, 0, 0);
    }

    /** "gain as above": that ahead of FOOD and BOTTOMS. */
    private static void weightByTheGainAheadOfFood() {
        String rule = "part (gain=60)*parts;food 10;loan (gain=60)*4;";
        MonsoonTrade x = begun(rule, 100, of(BOTTOM, 10, 1), of(SHARE, 1, 1), of(LOAN, 20, 2));
        trade(x, 60);
        // 60 less 10 less 11 are 39
        ends("gain 60", x, 100 + 4);
        venture("share", x, 1, 13, 0, 0);
        venture("loan", x, 2, 22, 16, 0);
    }

    /** "parts its PARTS, owed its OWED" */
    private static void weightByOwnPartsAndOwed() {
        MonsoonTrade x = begun("part parts+owed;food 0;loan 0;", 100, of(SHARE, 40, 1), of(LOAN, 7, 3), of(VENTURE, 50, 9));
        trade(x, 20);
        ends("weights 1, 10, 9", x, 100);
        venture("a share owes nothing", x, 0, 1, 0, 0);
        venture("loan", x, 1, 10, 7, 0);
        venture("venture", x, 2, 9, 0, 1);
    }

    /** W may be more than an int, and REST times WEIGHT, too; an E wraps round at 32 bits. */
    private static void weightsBeyondAnInt() {
        MonsoonTrade x = begun("part 9999*9999*21;food 0;loan 0;", 100, of(SHARE, 1, 1), of(SHARE, 1, 1), of(SHARE, 1, 1));
        trade(x, 90);
        ends("three of 2099580021", x, 100);
        for (int i = 0; i < 3; i++) {
            venture("a third", x, i, 30, 0, 0);
        }
        MonsoonTrade y = begun("part 9999*9999*(21+parts);food 0;loan 0;", 100, of(SHARE, 1, 1), of(SHARE, 1, 9));
        trade(y, 90);
        // 22 times it is beyond an int, and below 0; so is 30 times it
        ends("weights that wrap round", y, 190);
        MonsoonTrade z = begun("part 9999*9999*(41+parts);food 0;loan 0;", 100, of(SHARE, 1, 1), of(SHARE, 1, 3));
        trade(z, 90);
        // 42 times it is 4199160042, below 0; 44 times it comes to 4399120044 - 4294967296
        ends("one wraps round to above 0", z, 100);
        venture("below 0", z, 0, 0, 0, 0);
        venture("above 0", z, 1, 90, 0, 0);
    }

    /** "REST times WEIGHT by W (cut ..)": what is cut off stays. */
    private static void dueIsCut() {
        MonsoonTrade x = begun(NO_FOOD, 100, of(SHARE, 1, 1), of(SHARE, 1, 1), of(SHARE, 1, 1));
        trade(x, 11);
        ends("11 by 3", x, 102);
        for (int i = 0; i < 3; i++) {
            venture("a third of 11", x, i, 3, 0, 0);
        }
        MonsoonTrade y = begun(NO_FOOD, 100, of(SHARE, 1, 1), of(SHARE, 1, 9));
        trade(y, 9);
        ends("9 by 10", y, 101);
        venture("less than one", y, 0, 0, 0, 0);
        venture("81 by 10", y, 1, 8, 0, 0);
        MonsoonTrade z = begun(NO_FOOD, 100, of(SHARE, 1, 1), of(SHARE, 1, 9));
        trade(z, 10);
        ends("10 by 10", z, 100);
        venture("just one", z, 0, 1, 0, 0);
    }

    // ---- "of a LOAN first loan of THE RULE (owed its OWED; 0 at least, at most DUE and OWED) is taken from DUE"

    private static void loan(String text, int gain, int due, int got, int owed) {
        MonsoonTrade x = begun("part parts;food 0;loan " + text + ";", 100, of(LOAN, 50, 2));
        trade(x, gain);
        String what = "loan " + text + " of " + gain;
        ends(what, x, due);
        venture(what, x, 0, got, owed, owed == 0 ? 1 : 0);
    }

    private static void loanIsZeroAtLeast() {
        loan("0-1", 30, 100, 30, 50);
        loan("-9999", 30, 100, 30, 50);
        loan("9999*9999*30", 30, 100, 30, 50);
        loan("0", 30, 100, 30, 50);
        loan("1", 30, 101, 29, 49);
    }

    private static void loanIsAtMostDue() {
        loan("29", 30, 129, 1, 21);
        loan("30", 30, 130, 0, 20);
        loan("31", 30, 130, 0, 20);
        loan("owed", 30, 130, 0, 20);
        loan("9999*9999*21", 30, 130, 0, 20);
        loan("owed", 0, 100, 0, 50);
        loan("owed", -30, 70, 0, 50);
    }

    private static void loanIsAtMostOwed() {
        loan("49", 60, 149, 11, 1);
        loan("50", 60, 150, 10, 0);
        loan("51", 60, 150, 10, 0);
        loan("9999", 60, 150, 10, 0);
        loan("owed", 50, 150, 0, 0);
        loan("owed", 49, 149, 0, 1);
        loan("owed", 51, 150, 1, 0);
    }

    /** "owed its OWED": what is left of it on the next voyage. */
    private static void loanByItsOwed() {
        MonsoonTrade x = begun("part parts;food 0;loan owed-45;", 100, of(LOAN, 50, 2));
        trade(x, 20);
        ends("50 less 45", x, 105);
        venture("50 less 45", x, 0, 15, 45, 0);
        x.begin(0);
        trade(x, 20);
        ends("45 less 45", x, 105);
        venture("45 less 45", x, 0, 35, 45, 0);
    }

    // ---- "a SALE's DUE is its AMOUNT. What it gets goes out of the PURSE (what is there at most)"

    private static void saleIsItsAmount() {
        for (int coins : new int[] {-90, 0, 50}) {
            MonsoonTrade x = begun(NO_FOOD, 200, of(SALE, 60, 3));
            trade(x, coins);
            ends("a sale, gain " + coins, x, 200 + coins - 60);
            venture("a sale, gain " + coins, x, 0, 60, 0, 1);
        }
        for (int amount = 99; amount <= 101; amount++) {
            MonsoonTrade x = begun(NO_FOOD, 100, of(SALE, amount, 1), of(SALE, 5, 1));
            ends("a sale of " + amount + " of 100", x, 0);
            venture("first", x, 0, Math.min(100, amount), 0, 1);
            venture("second", x, 1, amount == 99 ? 1 : 0, 0, 1);
        }
    }

    private static void whatIsThereAtMost() {
        MonsoonTrade x = begun(NO_FOOD, 100, of(SALE, 115, 1), of(SHARE, 1, 1), of(VENTURE, 1, 1), of(TRUST, 1, 2));
        trade(x, 30);
        // each of the three is due 10, when 15 are left
        ends("what is there", x, 0);
        venture("sale", x, 0, 115, 0, 1);
        venture("share", x, 1, 10, 0, 0);
        venture("venture", x, 2, 5, 0, 1);
        venture("trust", x, 3, 0, 0, 1);
        MonsoonTrade y = begun(NO_FOOD, 100, of(SHARE, 1, 1), of(SALE, 115, 1), of(SHARE, 1, 2));
        trade(y, 30);
        ends("by numbers", y, 0);
        venture("ahead of the sale", y, 0, 10, 0, 0);
        venture("sale", y, 1, 115, 0, 1);
        venture("behind the sale", y, 2, 5, 0, 0);
    }

    /** "Those of KIND 0, TRUSTS, SALES are over then; SHARES stay; LOANS stay while they have OWED, else they are over" */
    private static void whoIsOver() {
        int[] over = {1, 0, 0, 1, 1, 1};
        for (int kind = 0; kind < 6; kind++) {
            MonsoonTrade x = begun(NO_FOOD, 300, of(kind, 20, 1));
            c.due("on the voyage", x.ventureTold(0, 5), 0);
            x.end(0);
            c.due("over of kind " + kind, x.ventureTold(0, 5), over[kind]);
            c.due("open ones", x.count(8), 1 - over[kind]);
            c.due("its dhow is told on", x.ventureTold(0, 1), 0);
            c.due("its amount is told on", x.ventureTold(0, 2), 20);
        }
    }

    /** What is over gets nothing more, what stays gets more. */
    private static void theNextVoyage() {
        MonsoonTrade x = begun("part parts;food 0;loan owed-10;", 400, of(VENTURE, 9, 1), of(SHARE, 9, 1), of(LOAN, 20, 1),
                of(TRUST, 9, 2), of(SALE, 9, 1), of(BOTTOM, 9, 1));
        trade(x, 49);
        // 49 less 9 are 40: 10 each; of the loan's, 10 stay
        ends("first", x, 400 + 10 - 9);
        c.due("stake", x.begin(0), 401);
        trade(x, 40);
        ends("second", x, 401);
        int[] got = {10, 30, 20, 10, 9, 9};
        for (int i = 0; i < got.length; i++) {
            c.due("all that it got, kind " + i, x.ventureTold(i, 6), got[i]);
        }
        c.due("open ones", x.count(8), 2);
    }

    private static void ofOneDhowAlone() {
        MonsoonTrade x = begun(NO_FOOD, 100, of(SHARE, 1, 1));
        x.dhow(0, 9, 700);
        for (int kind = 0; kind < 6; kind++) {
            x.venture(kind, 1, 50, 9);
        }
        x.begin(1);
        trade(x, 30);
        ends("of dhow 0", x, 100);
        venture("its share", x, 0, 30, 0, 0);
        for (int kind = 0; kind < 6; kind++) {
            venture("another one's", x, 1 + kind, 0, kind == LOAN ? 50 : kind == BOTTOM ? 55 : 0, 0);
        }
        c.due("another one's purse", x.told(1, 3), 850);
        c.due("another one's stake", x.told(1, 5), 850);
    }

    /** A LOAN that waits gets nothing; from when it is on a DHOW it does, on a voyage that began, too. */
    private static void aLoanThatWaited() {
        MonsoonTrade x = begun("part parts;food men;loan 0;", 100, of(SHARE, 1, 1));
        x.dhow(0, 1, 50);
        x.venture(LOAN, 1, 50, 2);
        x.sail(1, 1);
        x.lose(1);
        trade(x, 31);
        ends("it waits", x, 100);
        venture("it waits", x, 1, 0, 50, 0);
        x.begin(0);
        c.due("on a voyage that began", x.on(1, 0), 1);
        trade(x, 32);
        ends("two men, 30 by 3", x, 100);
        venture("share", x, 0, 40, 0, 0);
        venture("loan", x, 1, 20, 50, 0);
    }

    /** The last of 16 has its part. */
    private static void sixteenOfThem() {
        MonsoonTrade x = begun("part parts;food men;loan owed;", 100);
        for (int i = 0; i < 16; i++) {
            x.venture(SHARE, 0, 1, i == 15 ? 9 : 1);
        }
        trade(x, 64);
        // 64 less 16 are 48, of 24 parts
        ends("sixteen", x, 100);
        for (int i = 0; i < 16; i++) {
            venture("sixteen", x, i, i == 15 ? 18 : 2, 0, 0);
        }
    }
}
