/** Promises 1 and 28: what a new object holds, and how many there are. */
public final class CountTest {
    private static final Check c = new Check("CountTest");

    public static void main(String[] args) {
        newObject();
        counts();
        twoObjects();
        c.finish();
    }

    private static void expect(MonsoonTrade x, int... due) {
        for (int what = 0; what < due.length; what++) {
            c.due("count " + what, x.count(what), due[what]);
        }
    }

    private static void newObject() {
        MonsoonTrade x = new MonsoonTrade();
        expect(x, 0, 0, 0, 1, 0, 0, 0, 0, 0);
        c.due("what -1", x.count(-1), -2);
        c.due("what 9", x.count(9), -2);
        for (int sheet = 0; sheet < 4; sheet++) {
            c.due("sheets are missing", x.cell(sheet, 0, 0), -11);
        }
        x.port(0, 0);
        x.port(2, 0);
        for (int month = 0; month < 12; month++) {
            c.due("winds are 0", x.way(0, 1, month * 30) + x.way(1, 0, month * 30), 2);
        }
    }

    private static void counts() {
        MonsoonTrade x = new MonsoonTrade();
        x.port(0, 0);
        x.port(2, 0);
        x.port(2, 2);
        x.dhow(0, 9, 99);
        x.dhow(0, 9, 99);
        for (int kind = 0; kind < 4; kind++) {
            x.venture(kind, 0, 9, 1);
        }
        Check.text(x, "part 1;food 1;loan 1;");
        x.force(1);
        x.feed(3, 0);
        x.days(2);
        expect(x, 3, 2, 4, 2, 3, 2, 1, 0, 4);
        x.sail(0, 1);
        x.lose(0);
        expect(x, 3, 2, 4, 2, 3, 2, 1, 1, 1);
    }

    private static void twoObjects() {
        MonsoonTrade x = new MonsoonTrade();
        MonsoonTrade y = new MonsoonTrade();
        x.port(0, 0);
        x.wind(0, 2);
        Check.feed(x, "part");
        expect(y, 0, 0, 0, 1, 0, 0, 0, 0, 0);
    }
}
