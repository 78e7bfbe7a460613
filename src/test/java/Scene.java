import java.util.function.Supplier;

/** Scenes from which the edge tests start; each makes a new object by the same calls every time. */
final class Scene {
    static final Supplier<MonsoonTrade> NEW = MonsoonTrade::new;
    static final Supplier<MonsoonTrade> PLAIN = Scene::plain;
    static final Supplier<MonsoonTrade> BUSY = Scene::busy;
    static final Supplier<MonsoonTrade> CROWDED = Scene::crowded;
    static final Supplier<MonsoonTrade> LAST_DAY = () -> onDay(9999);

    /** As PLAIN, but there is no way to port 1 in month 0. */
    static final Supplier<MonsoonTrade> CALMED = () -> {
        MonsoonTrade x = plain();
        x.wind(0, -2);
        return x;
    };

    /** It is day 9600, and a dhow comes on day 9606. */
    static final Supplier<MonsoonTrade> LATE_AT_SEA = () -> {
        MonsoonTrade x = onDay(9600);
        x.sail(0, 1);
        return x;
    };

    /** The rule of BUSY: each of its parts hangs on days that passed. */
    static final String BUSY_TEXT = "part parts+days;food days*men+month;loan owed-1;";

    private Scene() {
    }

    /** Ports at (0, 0) and (12, 0), and a dhow in port 0 with a hold of 20 and a purse of 500. */
    static MonsoonTrade plain() {
        MonsoonTrade x = new MonsoonTrade();
        x.port(0, 0);
        x.port(12, 0);
        x.dhow(0, 20, 500);
        return x;
    }

    /**
     * Something of everything. Dhow 0 is in port 1 on a voyage, with goods 0 and 1 aboard; dhow 1 is at sea on
     * a voyage, from port 1 to port 0; dhow 2 is lost; dhow 3 is in port 1, on no voyage. Ventures: 0 a loan
     * that waits, 1 over, 2 .. 6 of kinds 1 .. 5 on dhow 0, 7 a venture on dhow 3. It is day 9; the tape has
     * 9 bytes; sheets 0, 1, 2 are of sorts 0, 1, 2 and sizes 5, 3, 2; sheet 3 is missing.
     */
    static MonsoonTrade busy() {
        MonsoonTrade x = new MonsoonTrade();
        makePorts(x);
        x.dhow(0, 20, 500);
        x.dhow(1, 30, 400);
        x.dhow(0, 9, 300);
        x.dhow(1, 40, 90);
        Check.text(x, BUSY_TEXT);
        x.force(1);
        loseDhowTwo(x);
        for (int kind = 1; kind < 6; kind++) {
            x.venture(kind, 0, 100 - kind, kind + 1);
        }
        x.begin(0);
        x.buy(0, 0, 6);
        x.buy(0, 1, 4);
        x.sail(0, 1);
        x.days(4);
        x.sell(0, 0, 5);
        x.venture(0, 3, 10, 1);
        x.begin(1);
        x.buy(1, 2, 3);
        x.sail(1, 0);
        x.days(5);
        Check.feed(x, "part 7;fo");
        makeSheets(x);
        return x;
    }

    private static void makePorts(MonsoonTrade x) {
        x.port(0, 0);
        x.port(12, 0);
        x.port(12, 12);
        x.port(50, 40);
        for (int month = 0; month < 12; month++) {
            x.wind(month, (month + 3) % 5 - 2);
        }
        for (int port = 0; port < 4; port++) {
            for (int good = 0; good < 4; good++) {
                x.wants(port, good, 5 + 7 * port + 3 * good, 1 + (port + 2 * good) % 9);
            }
        }
    }

    private static void loseDhowTwo(MonsoonTrade x) {
        x.venture(2, 2, 70, 2);
        x.venture(0, 2, 30, 1);
        x.sail(2, 1);
        x.lose(2);
    }

    private static void makeSheets(MonsoonTrade x) {
        int[][] rows = {{-2, 1, -100, 2, 0}, {1, -1, 2}, {-1, 70000}};
        for (int sort = 0; sort < rows.length; sort++) {
            x.sheet(sort, sort, rows[sort].length);
            for (int i = 0; i < rows[sort].length; i++) {
                x.cell(sort, i, rows[sort][i]);
            }
        }
    }

    /** As many of everything as there can be: 6 ports, 4 dhows, 16 ventures, 6 texts, 160 bytes on the tape. */
    static MonsoonTrade crowded() {
        MonsoonTrade x = new MonsoonTrade();
        for (int port = 0; port < 6; port++) {
            x.port(12 * port, port);
        }
        for (int dhow = 0; dhow < 4; dhow++) {
            x.dhow(dhow, 9, 100);
        }
        for (int venture = 0; venture < 16; venture++) {
            x.venture(1, venture % 4, 1 + venture, 1);
        }
        for (int text = 1; text < 6; text++) {
            Check.text(x, "part " + text + ";food 0;loan 0;");
        }
        StringBuilder tape = new StringBuilder("part 1;food 1;loan 1;");
        while (tape.length() < 160) {
            tape.append(' ');
        }
        Check.feed(x, tape.toString());
        return x;
    }

    /** As PLAIN, on a later day, of which a call tells at most 400. */
    static MonsoonTrade onDay(int day) {
        MonsoonTrade x = plain();
        for (int left = day; left > 0; left -= 400) {
            x.days(Math.min(400, left));
        }
        return x;
    }

    /** Ports at (x, y), (x, y) .. */
    static MonsoonTrade ports(int... places) {
        MonsoonTrade x = new MonsoonTrade();
        for (int i = 0; i < places.length; i += 2) {
            x.port(places[i], places[i + 1]);
        }
        return x;
    }
}
