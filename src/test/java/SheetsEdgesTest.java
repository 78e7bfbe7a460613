/** The boundary cases of promises 6 and 29 to 31: sheets, their cells, winds from them, kinds taken for others. */
public final class SheetsEdgesTest {
    private static final Check c = new Check("SheetsEdgesTest");
    private static final Edge e = new Edge(c);
    private static final int SORTS = 3;

    public static void main(String[] args) {
        sheetSides();
        sheetBadAheadOfItsSize();
        sheetSizes();
        sheetMissing();
        sheetAnew();
        cellSides();
        cellOfTheEmptyAndTheFull();
        cellKeepsItsLowestBits();
        windsSides();
        windsBadAheadOfTheHost();
        windsOfAnotherSort();
        windsOfAMissingSheet();
        windsOutside();
        windsBringWhatStoodAhead();
        windsOfNone();
        windsOfAllMonths();
        windsAreHeld();
        takenSides();
        takenByKind();
        takenInAnyState();
        c.finish();
    }

    // ---- promise 29

    /** "BAD: no such SHEET, sort; n above 40; -14" */
    private static void sheetSides() {
        for (int sort = -1; sort < SORTS; sort++) {
            int s = sort;
            e.outside("sheet", Scene.BUSY, -2, 0, 3, (x, n) -> x.sheet(n, s, 5));
        }
        e.outside("sort", Scene.BUSY, -2, -1, 2, (x, n) -> x.sheet(0, n, 5));
        for (int sort = 0; sort < SORTS; sort++) {
            int s = sort;
            for (int sheet = 0; sheet < 4; sheet++) {
                int at = sheet;
                e.refused("n 41", Scene.BUSY, -2, x -> x.sheet(at, s, 41));
                e.refused("greatest n", Scene.BUSY, -2, x -> x.sheet(at, s, Integer.MAX_VALUE));
                e.refused("n -1", Scene.BUSY, -14, x -> x.sheet(at, s, -1));
                e.refused("least n", Scene.BUSY, -14, x -> x.sheet(at, s, Integer.MIN_VALUE));
                e.due("n 0", Scene.BUSY, 1, x -> x.sheet(at, s, 0));
                e.due("n 40", Scene.BUSY, 1, x -> x.sheet(at, s, 40));
            }
        }
    }

    private static void sheetBadAheadOfItsSize() {
        e.outside("sheet, n -1", Scene.BUSY, -2, 0, 3, (x, n) -> x.sheet(n, 0, -1));
        e.outside("sort, n -1", Scene.BUSY, -2, -1, 2, (x, n) -> x.sheet(0, n, -1));
        e.outside("sort, n 41", Scene.BUSY, -2, -1, 2, (x, n) -> x.sheet(0, n, 41));
    }

    /** "a row of n": its last item is n - 1. */
    private static void sheetSizes() {
        for (int sort = 0; sort < SORTS; sort++) {
            for (int n : new int[] {0, 1, 2, 39, 40}) {
                for (int sheet = 0; sheet < 4; sheet++) {
                    MonsoonTrade x = new MonsoonTrade();
                    c.due("sheet of " + n, x.sheet(sheet, sort, n), 1);
                    c.due("its last item", x.cell(sheet, n - 1, 1), n == 0 ? -12 : 1);
                    c.due("behind it", x.cell(sheet, n, 1), -12);
                    c.due("its first item", x.cell(sheet, 0, 1), n == 0 ? -12 : 1);
                    c.due("other sheets are missing", x.cell((sheet + 1) % 4, 0, 1), -11);
                }
            }
        }
    }

    /** "or missing (sort -1: n does not matter)" */
    private static void sheetMissing() {
        for (int n : new int[] {Integer.MIN_VALUE, -1, 0, 1, 40, 41, Integer.MAX_VALUE}) {
            MonsoonTrade x = Scene.busy();
            for (int sheet = 0; sheet < 4; sheet++) {
                c.due("missing by n " + n, x.sheet(sheet, -1, n), 1);
                c.due("missing", x.cell(sheet, 0, 0), -11);
                for (int sort = 0; sort < SORTS; sort++) {
                    c.due("no winds", x.winds(sheet, sort, 0, 1), -11);
                }
            }
        }
        MonsoonTrade y = Scene.busy();
        y.sheet(0, -1, 0);
        c.due("a row again", y.sheet(0, 0, 5), 1);
        c.due("of 0", y.winds(0, 0, 0, 1), 1);
        c.due("of 0", y.way(0, 1, 0), 6);
    }

    /** "A SHEET becomes a row of n of a sort, all 0" */
    private static void sheetAnew() {
        for (int sort = 0; sort < SORTS; sort++) {
            for (int anew = 0; anew < SORTS; anew++) {
                MonsoonTrade x = Scene.plain();
                x.sheet(1, sort, 12);
                for (int i = 0; i < 12; i++) {
                    x.cell(1, i, 2);
                }
                c.due("anew", x.sheet(1, anew, 11), 1);
                c.due("smaller", x.cell(1, 11, 0), -12);
                c.due("its sort", x.winds(1, anew, 0, 11), 11);
                c.due("a sort that it was", x.winds(1, sort, 0, 0), sort == anew ? 0 : -13);
                for (int month = 0; month < 11; month++) {
                    c.due("all 0", x.way(0, 1, 30 * month), 6);
                }
            }
        }
    }

    // ---- promise 30

    /** "BAD: no such SHEET; -11; -12" */
    private static void cellSides() {
        e.outside("sheet", Scene.BUSY, -2, 0, 3, (x, n) -> x.cell(n, 0, 1));
        e.outside("sheet ahead of its place", Scene.BUSY, -2, 0, 3, (x, n) -> x.cell(n, -1, 1));
        e.refused("missing", Scene.BUSY, -11, x -> x.cell(3, 0, 1));
        e.outside("missing ahead of a place outside", Scene.BUSY, -11, 0, 39, (x, n) -> x.cell(3, n, 1));
        e.outside("place of 5 bytes", Scene.BUSY, -12, 0, 4, (x, n) -> x.cell(0, n, 1));
        e.outside("place of 3 shorts", Scene.BUSY, -12, 0, 2, (x, n) -> x.cell(1, n, 1));
        e.outside("place of 2 ints", Scene.BUSY, -12, 0, 1, (x, n) -> x.cell(2, n, 1));
        e.due("first place", Scene.BUSY, 1, x -> x.cell(0, 0, Integer.MIN_VALUE));
        e.due("last place", Scene.BUSY, 1, x -> x.cell(0, 4, Integer.MAX_VALUE));
    }

    private static void cellOfTheEmptyAndTheFull() {
        MonsoonTrade x = Scene.plain();
        x.sheet(2, 1, 0);
        for (int i = -1; i <= 1; i++) {
            c.due("of none", x.cell(2, i, 1), -12);
        }
        x.sheet(2, 1, 40);
        for (int i = 0; i < 40; i++) {
            c.due("of 40", x.cell(2, i, i == 39 ? 2 : -1), 1);
        }
        c.due("the last", x.winds(2, 1, 39, 1), 1);
        c.due("the last", x.way(0, 1, 0), 3);
        c.due("the first", x.winds(2, 1, 0, 1), 1);
        c.due("the first", x.way(0, 1, 0), 12);
    }

    /** Two ports 60 apart: a way that tells every speed from 1 to 5. */
    private static MonsoonTrade sixtyApart() {
        return Scene.ports(0, 0, 60, 0);
    }

    /** The wind of a month where ports 0 and 1 are 60 apart. */
    private static int windOf(MonsoonTrade x, int month) {
        int there = x.way(0, 1, 30 * month);
        int back = x.way(1, 0, 30 * month);
        return there == -1 ? 2 - 60 / Math.max(1, back) : 60 / there - 2;
    }

    /** "of bytes, shorts its lowest 8, 16 bits": where these come round. */
    private static void cellKeepsItsLowestBits() {
        int[] numbers = {1, 127, 128, 129, 254, 255, 256, 257, -1, -127, -128, -129, -255, -256, -257, 32767, 32768, 65534,
            65535, 65536, 65537, -32768, -32769, -65535, -65536, -65537, Integer.MAX_VALUE, Integer.MIN_VALUE};
        for (int number : numbers) {
            int[] due = {(byte) number, (short) number, number};
            for (int sort = 0; sort < SORTS; sort++) {
                MonsoonTrade x = sixtyApart();
                x.sheet(0, sort, 3);
                c.due("cell", x.cell(0, 1, number), 1);
                c.due("winds", x.winds(0, sort, 0, 3), 3);
                String what = number + " in sort " + sort;
                c.due(what, windOf(x, 1), Math.max(-2, Math.min(2, due[sort])));
                c.due("ahead of " + what, windOf(x, 0), 0);
                c.due("behind " + what, windOf(x, 2), 0);
            }
        }
        MonsoonTrade x = sixtyApart();
        x.sheet(0, 0, 1);
        x.cell(0, 0, 255);
        x.winds(0, 0, 0, 1);
        c.due("byte 255 is -1", windOf(x, 0), -1);
        x.cell(0, 0, 257);
        x.winds(0, 0, 0, 1);
        c.due("byte 257 is 1", windOf(x, 0), 1);
        x.sheet(0, 1, 1);
        x.cell(0, 0, 65535);
        x.winds(0, 1, 0, 1);
        c.due("short 65535 is -1", windOf(x, 0), -1);
        x.cell(0, 0, 65537);
        x.winds(0, 1, 0, 1);
        c.due("short 65537 is 1", windOf(x, 0), 1);
    }

    // ---- promise 6

    /** "BAD: no such SHEET, sort, n"; "n of them (0 .. 12)" */
    private static void windsSides() {
        e.outside("sheet", Scene.BUSY, -2, 0, 3, (x, n) -> x.winds(n, 0, 0, 1));
        e.outside("sort", Scene.BUSY, -2, 0, 2, (x, n) -> x.winds(0, n, 0, 1));
        e.outside("n", Scene.BUSY, -2, 0, 12, (x, n) -> x.winds(0, 0, 0, n));
        e.due("all of 5", Scene.BUSY, 5, x -> x.winds(0, 0, 0, 5));
        e.due("all of 3", Scene.BUSY, 3, x -> x.winds(1, 1, 0, 3));
        e.due("all of 2", Scene.BUSY, 2, x -> x.winds(2, 2, 0, 2));
    }

    private static void windsBadAheadOfTheHost() {
        e.outside("sort of a missing one", Scene.BUSY, -2, 0, 2, (x, n) -> x.winds(3, n, 0, 1));
        e.outside("n of a missing one", Scene.BUSY, -2, 0, 12, (x, n) -> x.winds(3, 0, 0, n));
        e.outside("n of another sort", Scene.BUSY, -2, 0, 12, (x, n) -> x.winds(0, 1, 0, n));
        e.outside("n from outside", Scene.BUSY, -2, 0, 12, (x, n) -> x.winds(0, 0, 99, n));
    }

    /** "-13: a thing of another sort", ahead of -12 */
    private static void windsOfAnotherSort() {
        for (int sheet = 0; sheet < SORTS; sheet++) {
            for (int sort = 0; sort < SORTS; sort++) {
                int at = sheet;
                int s = sort;
                if (s != at) {
                    e.refused(at + " taken for " + s, Scene.BUSY, -13, x -> x.winds(at, s, 0, 1));
                    e.refused(at + " taken for " + s + ", none of it", Scene.BUSY, -13, x -> x.winds(at, s, 0, 0));
                    e.refused(at + " taken for " + s + ", from outside", Scene.BUSY, -13, x -> x.winds(at, s, 99, 1));
                    e.refused(at + " taken for " + s + ", from below", Scene.BUSY, -13, x -> x.winds(at, s, -1, 12));
                }
            }
        }
    }

    /** "-11 nothing where something is asked", ahead of -12 */
    private static void windsOfAMissingSheet() {
        for (int sort = 0; sort < SORTS; sort++) {
            int s = sort;
            e.refused("missing", Scene.BUSY, -11, x -> x.winds(3, s, 0, 1));
            e.refused("missing, none of it", Scene.BUSY, -11, x -> x.winds(3, s, 0, 0));
            e.refused("missing, from outside", Scene.BUSY, -11, x -> x.winds(3, s, -1, 1));
        }
    }

    /** "-12 a place outside": when the first of them is, nothing came. */
    private static void windsOutside() {
        e.outside("from", Scene.BUSY, -12, 0, 4, (x, n) -> x.winds(0, 0, n, 1));
        e.outside("from, 12 of them", Scene.BUSY, -12, 0, 4, (x, n) -> x.winds(0, 0, n, 12));
        e.refused("from -1, though the next stands there", Scene.BUSY, -12, x -> x.winds(0, 0, -1, 2));
        e.refused("from so low that it comes round", Scene.BUSY, -12, x -> x.winds(0, 0, Integer.MIN_VALUE, 12));
        e.refused("from so high that it comes round", Scene.BUSY, -12, x -> x.winds(0, 0, Integer.MAX_VALUE, 12));
        MonsoonTrade none = Scene.plain();
        none.sheet(0, 0, 0);
        c.due("of a row of 0", none.winds(0, 0, 0, 1), -12);
        e.due("the last alone", Scene.BUSY, 1, x -> x.winds(0, 0, 4, 1));
        e.due("up to the last", Scene.BUSY, 3, x -> x.winds(0, 0, 2, 3));
    }

    /** "-12: what stood ahead came" */
    private static void windsBringWhatStoodAhead() {
        for (int from = 0; from < 5; from++) {
            MonsoonTrade x = sixtyApart();
            x.sheet(0, 0, 5);
            for (int i = 0; i < 5; i++) {
                x.cell(0, i, i % 2 == 0 ? 1 : -1);
            }
            for (int month = 0; month < 12; month++) {
                x.wind(month, 2);
            }
            c.due("one more than there are from " + from, x.winds(0, 0, from, 6 - from), -12);
            for (int month = 0; month < 12; month++) {
                int item = from + month;
                c.due("wind of " + month + " from " + from, windOf(x, month), item > 4 ? 2 : item % 2 == 0 ? 1 : -1);
            }
        }
    }

    /** "n of them (0 .. 12)": of 0 none is asked, so none is outside. */
    private static void windsOfNone() {
        e.refused("none of 5", Scene.BUSY, 0, x -> x.winds(0, 0, 0, 0));
        e.refused("none of 5, from the end", Scene.BUSY, 0, x -> x.winds(0, 0, 5, 0));
        MonsoonTrade x = new MonsoonTrade();
        x.sheet(0, 2, 0);
        c.due("none of none", x.winds(0, 2, 0, 0), 0);
    }

    /** "MONTHS 0, 1, .." to the last, and no further than n. */
    private static void windsOfAllMonths() {
        for (int n = 0; n <= 12; n++) {
            MonsoonTrade x = sixtyApart();
            x.sheet(3, 2, 40);
            for (int i = 0; i < 12; i++) {
                x.cell(3, 28 + i, i % 4 - 1);
                x.wind(i, -2);
            }
            c.due("n " + n, x.winds(3, 2, 28, n), n);
            for (int month = 0; month < 12; month++) {
                c.due("wind of " + month + " by n " + n, windOf(x, month), month < n ? month % 4 - 1 : -2);
            }
        }
    }

    /** "beyond -2 .. 2 they are -2, 2" */
    private static void windsAreHeld() {
        int[] items = {-128, -100, -3, -2, -1, 0, 1, 2, 3, 100, 127};
        int[] due = {-2, -2, -2, -2, -1, 0, 1, 2, 2, 2, 2};
        for (int sort = 0; sort < SORTS; sort++) {
            MonsoonTrade x = sixtyApart();
            x.sheet(0, sort, items.length);
            for (int i = 0; i < items.length; i++) {
                x.cell(0, i, items[i]);
            }
            c.due("winds", x.winds(0, sort, 0, items.length), items.length);
            for (int i = 0; i < items.length; i++) {
                c.due("wind of " + items[i] + " in sort " + sort, windOf(x, i), due[i]);
            }
        }
    }

    // ---- promise 31

    /** "BAD: k; -11: no such VENTURE; -13" */
    private static void takenSides() {
        e.outside("k", Scene.BUSY, -2, 0, 5, (x, n) -> x.taken(0, n));
        e.outside("venture", Scene.BUSY, -11, 0, 7, (x, n) -> x.taken(n, 0));
        e.outside("venture", Scene.CROWDED, -11, 0, 15, (x, n) -> x.taken(n, 0));
        e.outside("venture, when there is none", Scene.NEW, -11, 0, -1, (x, n) -> x.taken(n, 0));
        e.outside("k ahead of venture", Scene.BUSY, -2, 0, 5, (x, n) -> x.taken(8, n));
        e.outside("k ahead of venture", Scene.BUSY, -2, 0, 5, (x, n) -> x.taken(-1, n));
        e.outside("k ahead of a venture that is none", Scene.NEW, -2, 0, 5, (x, n) -> x.taken(0, n));
        e.due("the last", Scene.CROWDED, 16, x -> x.taken(15, 1));
    }

    /** "1 SHARE under VENTURE, 2 LOAN under SHARE, 3 TRUST under VENTURE, 4 SALE under TRUST, 5 BOTTOM under LOAN" */
    private static void takenByKind() {
        String[] under = {"0", "01", "012", "03", "034", "0125"};
        for (int kind = 0; kind < 6; kind++) {
            MonsoonTrade x = Scene.plain();
            x.venture(kind, 0, 40 + kind, 1);
            for (int k = 0; k < 6; k++) {
                boolean is = under[kind].indexOf((char) ('0' + k)) >= 0;
                c.due("kind " + kind + " taken for " + k, x.taken(0, k), is ? 40 + kind : -13);
            }
        }
        for (int k = 0; k < 6; k++) {
            int taken = k;
            boolean is = under[5].indexOf((char) ('0' + k)) >= 0;
            e.refused("a bottom taken for " + k, Scene.BUSY, is ? 95 : -13, x -> x.taken(6, taken));
        }
    }

    /** Its AMOUNT is told of one that is over, and of one that waits. */
    private static void takenInAnyState() {
        e.due("over", Scene.BUSY, 30, x -> x.taken(1, 0));
        e.due("over, for another kind", Scene.BUSY, -13, x -> x.taken(1, 1));
        e.due("waits", Scene.BUSY, 70, x -> x.taken(0, 2));
        e.due("waits, taken for a share", Scene.BUSY, 70, x -> x.taken(0, 1));
        e.due("waits, taken for a bottom", Scene.BUSY, -13, x -> x.taken(0, 5));
    }
}
