/** Promises 6 and 29 to 31: sheets, winds from them, and ventures taken for a kind. */
public final class SheetsTest {
    private static final Check c = new Check("SheetsTest");

    public static void main(String[] args) {
        sheets();
        cells();
        winds();
        windsThatEndOutside();
        taken();
        c.finish();
    }

    private static void sheets() {
        MonsoonTrade x = new MonsoonTrade();
        c.due("sheet -1", x.sheet(-1, 0, 1), -2);
        c.due("sheet 4", x.sheet(4, 0, 1), -2);
        c.due("sort -2", x.sheet(0, -2, 1), -2);
        c.due("sort 3", x.sheet(0, 3, 1), -2);
        c.due("n 41", x.sheet(0, 0, 41), -2);
        c.due("n -1", x.sheet(0, 0, -1), -14);
        c.due("sort ahead of size", x.sheet(0, 3, -1), -2);
        c.due("still missing", x.cell(0, 0, 1), -11);
        c.due("n 40", x.sheet(0, 0, 40), 1);
        c.due("last", x.cell(0, 39, 1), 1);
        c.due("behind", x.cell(0, 40, 1), -12);
        c.due("n 0", x.sheet(0, 1, 0), 1);
        c.due("none in it", x.cell(0, 0, 1), -12);
        c.due("missing, n -1", x.sheet(0, -1, -1), 1);
        c.due("missing", x.cell(0, 0, 1), -11);
        c.due("missing, n 41", x.sheet(3, -1, 41), 1);
    }

    private static void cells() {
        MonsoonTrade x = new MonsoonTrade();
        c.due("sheet -1", x.cell(-1, 0, 0), -2);
        c.due("sheet 4", x.cell(4, 0, 0), -2);
        c.due("missing", x.cell(3, -1, 0), -11);
        x.sheet(3, 2, 2);
        c.due("-1", x.cell(3, -1, 0), -12);
        c.due("2", x.cell(3, 2, 0), -12);
        c.due("1", x.cell(3, 1, 0), 1);
    }

    /** The wind of a month, told by a way of 60 to greater X, or by the way back. */
    private static int windOf(MonsoonTrade x, int month) {
        int there = x.way(0, 1, month * 30);
        int back = x.way(1, 0, month * 30);
        return there == -1 ? 2 - 60 / back : 60 / there - 2;
    }

    private static MonsoonTrade withPorts() {
        MonsoonTrade x = new MonsoonTrade();
        x.port(0, 0);
        x.port(60, 0);
        return x;
    }

    private static void winds() {
        int[] kept = {-1, 127, -128, 128, 256, 257, 65535, 65537, 32768, 2, -2, 0};
        for (int sort = 0; sort < 3; sort++) {
            MonsoonTrade x = withPorts();
            x.sheet(1, sort, 14);
            for (int i = 0; i < 12; i++) {
                c.due("cell", x.cell(1, i + 2, kept[i]), 1);
            }
            c.due("winds", x.winds(1, sort, 2, 12), 12);
            for (int i = 0; i < 12; i++) {
                int item = sort == 0 ? (byte) kept[i] : sort == 1 ? (short) kept[i] : kept[i];
                c.due("sort " + sort + ", wind of " + i, windOf(x, i), Math.max(-2, Math.min(2, item)));
            }
            x.sheet(1, sort, 14);
            c.due("all 0", x.winds(1, sort, 0, 12), 12);
            for (int i = 0; i < 12; i++) {
                c.due("all 0: wind of " + i, windOf(x, i), 0);
            }
        }
    }

    private static void windsThatEndOutside() {
        MonsoonTrade x = withPorts();
        c.due("sheet -1", x.winds(-1, 0, 0, 0), -2);
        c.due("sheet 4", x.winds(4, 0, 0, 0), -2);
        c.due("sort -1", x.winds(0, -1, 0, 0), -2);
        c.due("sort 3", x.winds(0, 3, 0, 0), -2);
        c.due("n -1", x.winds(0, 0, 0, -1), -2);
        c.due("n 13", x.winds(0, 0, 0, 13), -2);
        c.due("missing", x.winds(0, 0, 0, 0), -11);
        x.sheet(0, 1, 3);
        x.cell(0, 1, 1);
        x.cell(0, 2, -1);
        c.due("shorts taken for bytes", x.winds(0, 0, 0, 1), -13);
        c.due("shorts taken for ints", x.winds(0, 2, 9, 1), -13);
        c.due("none of them, outside", x.winds(0, 1, 99, 0), 0);
        c.due("none of them, from below", x.winds(0, 1, -99, 0), 0);
        c.due("from below", x.winds(0, 1, -1, 3), -12);
        c.due("nothing came", windOf(x, 0), 0);
        c.due("greatest from", x.winds(0, 1, Integer.MAX_VALUE, 12), -12);
        c.due("least from", x.winds(0, 1, Integer.MIN_VALUE, 12), -12);
        x.wind(2, 2);
        c.due("two and one outside", x.winds(0, 1, 1, 3), -12);
        c.due("the first came", windOf(x, 0), 1);
        c.due("the second came", windOf(x, 1), -1);
        c.due("the third did not", windOf(x, 2), 2);
        c.due("all three", x.winds(0, 1, 0, 3), 3);
        c.due("the third came", windOf(x, 2), -1);
    }

    private static void taken() {
        MonsoonTrade x = new MonsoonTrade();
        x.port(0, 0);
        x.dhow(0, 9, 9999);
        boolean[][] under = {
            {true, false, false, false, false, false},
            {true, true, false, false, false, false},
            {true, true, true, false, false, false},
            {true, false, false, true, false, false},
            {true, false, false, true, true, false},
            {true, true, true, false, false, true},
        };
        for (int kind = 0; kind < 6; kind++) {
            x.venture(kind, 0, 11 + kind, 1);
            for (int k = 0; k < 6; k++) {
                c.due("kind " + kind + " for " + k, x.taken(kind, k), under[kind][k] ? 11 + kind : -13);
            }
        }
        c.due("k -1", x.taken(0, -1), -2);
        c.due("k 6", x.taken(0, 6), -2);
        c.due("k ahead of venture", x.taken(6, 6), -2);
        c.due("venture 6", x.taken(6, 0), -11);
        c.due("venture -1", x.taken(-1, 0), -11);
    }
}
