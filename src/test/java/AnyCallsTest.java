import java.util.Random;

/**
 * Calls with any numbers in any state: none throws, the same calls give the same answers, and a refused one
 * changes nothing (but winds that end outside): where it is left out, all is as where it was made.
 */
public final class AnyCallsTest {
    private static final Check c = new Check("AnyCallsTest");
    private static final int[] EDGES = {
        Integer.MIN_VALUE, Integer.MIN_VALUE + 1, -100001, -3, -2, -1, 0, 1, 2, 3, 4, 5, 6, 7, 8, 9, 10, 11, 12, 13,
        15, 16, 39, 40, 41, 99, 100, 399, 400, 401, 9998, 9999, 10000, 99999, 100000, Integer.MAX_VALUE - 1,
        Integer.MAX_VALUE,
    };
    private static final String[] TEXTS = {
        "part parts*gain;food days;loan owed;", "part 9999*9999;food 0-men;loan month;", "part not(1;", "part -----1;",
        "food", "part 1;food 9999*9999*50;loan 0-9999*9999*50;",
    };

    public static void main(String[] args) {
        for (int seed = 0; seed < 600; seed++) {
            sameAnswers(seed, seed % 3 == 0 ? 3 : 12);
        }
        for (int seed = 0; seed < 2100; seed++) {
            refusedOnesLeftOut(seed, seed % 3 == 0 ? 3 : 8);
        }
        c.finish();
    }

    private static void sameAnswers(int seed, int wildness) {
        Random r = new Random(seed);
        Random again = new Random(seed);
        MonsoonTrade x = new MonsoonTrade();
        MonsoonTrade y = new MonsoonTrade();
        for (int i = 0; i < 400; i++) {
            long answer = call(x, r, wildness);
            c.due("the same call", call(y, again, wildness), answer);
        }
    }

    private static void refusedOnesLeftOut(int seed, int wildness) {
        Random r = new Random(seed);
        MonsoonTrade x = new MonsoonTrade();
        MonsoonTrade y = new MonsoonTrade();
        for (int i = 0; i < 180; i++) {
            long of = r.nextLong();
            long answer = call(x, new Random(of), wildness);
            boolean refused = answer <= -2 && answer >= -14 && answer != -12;
            if (!refused) {
                c.due("without refused ones", call(y, new Random(of), wildness), answer);
            }
        }
        int aspect = seed % Tale.ASPECTS;
        c.holds("refused ones change nothing (" + seed + ")", Tale.of(x, aspect).equals(Tale.of(y, aspect)));
    }

    private static int pick(Random r, int wildness, int least, int most) {
        if (r.nextInt(wildness * 4) == 0) {
            return EDGES[r.nextInt(EDGES.length)];
        }
        if (r.nextInt(wildness * 4) == 0) {
            return r.nextInt();
        }
        return least + r.nextInt(most - least + 1);
    }

    private static long call(MonsoonTrade x, Random r, int w) {
        switch (r.nextInt(40)) {
            case 0: return x.port(pick(r, w, 0, 20), pick(r, w, 0, 20));
            case 1: return x.wants(pick(r, w, 0, 5), pick(r, w, 0, 3), pick(r, w, 1, 99), pick(r, w, 0, 9));
            case 2: return x.price(pick(r, w, 0, 5), pick(r, w, 0, 3));
            case 3: return x.wind(pick(r, w, 0, 11), pick(r, w, -2, 2));
            case 4: return x.winds(pick(r, w, 0, 3), pick(r, w, 0, 2), pick(r, w, 0, 30), pick(r, w, 0, 12));
            case 5: return x.way(pick(r, w, 0, 5), pick(r, w, 0, 5), pick(r, w, 0, 9999));
            case 6: return x.dhow(pick(r, w, 0, 5), pick(r, w, 1, 99), pick(r, w, 0, 9999));
            case 7: return x.told(pick(r, w, 0, 3), pick(r, w, 0, 6));
            case 8: return x.good(pick(r, w, 0, 3), pick(r, w, 0, 3));
            case 9: return x.sell(pick(r, w, 0, 3), pick(r, w, 0, 3), pick(r, w, 1, 30));
            case 10: return x.buy(pick(r, w, 0, 3), pick(r, w, 0, 3), pick(r, w, 1, 30));
            case 11: return x.sail(pick(r, w, 0, 3), pick(r, w, 0, 5));
            case 12: return x.days(pick(r, w, 1, 20));
            case 13: return r.nextInt(4) == 0 ? x.lose(pick(r, w, 0, 3)) : 0;
            case 14: return x.heard(pick(r, w, 0, 1), pick(r, w, 0, 5), pick(r, w, 0, 5), pick(r, w, -1, 3));
            case 15: return x.venture(pick(r, w, 0, 5), pick(r, w, 0, 3), pick(r, w, 1, 500), pick(r, w, 1, 9));
            case 16: return x.ventureTold(pick(r, w, 0, 15), pick(r, w, 0, 6));
            case 17: return x.on(pick(r, w, 0, 15), pick(r, w, 0, 3));
            case 18: return x.begin(pick(r, w, 0, 3));
            case 19: return x.end(pick(r, w, 0, 3));
            case 20: return x.feed(pick(r, w, 1, 8), r.nextLong());
            case 21: return Check.feed(x, TEXTS[r.nextInt(TEXTS.length)]) * 0;
            case 22: return x.text();
            case 23: return x.force(pick(r, w, 0, 5));
            case 24: return x.says(pick(r, w, 0, 5), pick(r, w, 0, 2), pick(r, w, -9, 9), pick(r, w, 0, 9),
                    pick(r, w, 0, 9), pick(r, w, 0, 9), pick(r, w, 0, 9));
            case 25: return x.order(pick(r, w, 0, 3), pick(r, w, 1, 3), pick(r, w, 0, 9999), pick(r, w, 0, 2));
            case 26: return x.leg(pick(r, w, 0, 3), pick(r, w, 1, 3), pick(r, w, 0, 9999), pick(r, w, 0, 2));
            case 27: return x.count(pick(r, w, 0, 8));
            case 28: return x.sheet(pick(r, w, 0, 3), pick(r, w, -1, 2), pick(r, w, 0, 40));
            case 29: return x.cell(pick(r, w, 0, 3), pick(r, w, 0, 39), r.nextInt());
            case 30: return x.taken(pick(r, w, 0, 15), pick(r, w, 0, 5));
            case 31: case 32: return x.days(pick(r, w, 1, 9));
            case 33: return x.sell(pick(r, w, 0, 3), pick(r, w, 0, 3), 1);
            case 34: return x.begin(pick(r, w, 0, 3));
            case 35: return x.end(pick(r, w, 0, 3));
            default: return x.sail(pick(r, w, 0, 3), pick(r, w, 0, 5));
        }
    }
}
