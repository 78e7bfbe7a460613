import java.lang.reflect.InvocationTargetException;
import java.lang.reflect.Method;
import java.nio.charset.StandardCharsets;
import java.util.Arrays;
import java.util.HashMap;
import java.util.Map;
import java.util.Random;
import java.util.function.IntPredicate;
import java.util.stream.IntStream;

/**
 * Whole runs of all calls together, answer by answer against PlainTrade. What each promise asks for by itself has
 * its own tests; here voyages, losses, news, texts and orders come upon each other as chance has it.
 */
public final class RunsTest {
    private static final Check c = new Check("RunsTest");
    private static final int RUNS = 1500, MOST_CALLS = 512, CALLS_AT_END = 132, CALLS_A_STEP = 16;
    private static final int[] EDGES = {
        Integer.MIN_VALUE, -100001, -3, -2, -1, 0, 1, 2, 3, 4, 5, 6, 9, 10, 12, 13, 16, 40, 41, 99, 100, 400, 401, 9999,
        10000, 99999, 100000, Integer.MAX_VALUE,
    };
    private static final Map<String, Method> OURS = methods(MonsoonTrade.class);
    private static final Map<String, Method> PLAIN = methods(PlainTrade.class);

    private final Random r;
    private final int seed;
    /** How seldom a number is wild. */
    private final int tame;
    /** How many of ports, dhows, coins, and how far apart: small runs meet other edges than great ones. */
    private final int ports, dhows, coins, far;
    private final MonsoonTrade x = new MonsoonTrade();
    private final PlainTrade y = new PlainTrade();
    private final StringBuilder told = new StringBuilder();
    private int calls = 0;
    private boolean wrong = false;

    private RunsTest(int seed) {
        r = new Random(seed);
        this.seed = seed;
        tame = seed % 5 == 0 ? 12 : 80;
        ports = 2 + r.nextInt(5);
        dhows = 1 + r.nextInt(4);
        coins = seed % 3 == 0 ? 4 : seed % 3 == 1 ? 300 : 9999;
        far = seed % 2 == 0 ? 12 : 60;
    }

    public static void main(String[] args) {
        for (int seed = 0; seed < RUNS; seed++) {
            new RunsTest(seed).run();
        }
        c.finish();
    }

    private void run() {
        begin();
        while (calls < MOST_CALLS - CALLS_AT_END - CALLS_A_STEP && !wrong) {
            step();
        }
        end();
        c.holds("run " + seed + " keeps to the calls that are promised", calls <= MOST_CALLS);
    }

    private static Map<String, Method> methods(Class<?> k) {
        Map<String, Method> methods = new HashMap<>();
        for (Method m : k.getDeclaredMethods()) {
            methods.put(m.getName() + m.getParameterCount(), m);
        }
        return methods;
    }

    // ---- calls

    private static Object[] fit(Method m, long[] numbers) {
        Object[] fitted = new Object[numbers.length];
        for (int i = 0; i < numbers.length; i++) {
            if (m.getParameterTypes()[i] == int.class) {
                fitted[i] = (int) numbers[i];
            } else {
                fitted[i] = numbers[i];
            }
        }
        return fitted;
    }

    private static long answer(Object of, Method m, long[] numbers) {
        try {
            return ((Number) m.invoke(of, fit(m, numbers))).longValue();
        } catch (InvocationTargetException e) {
            if (e.getCause() instanceof PlainTrade.Refused) {
                return ((PlainTrade.Refused) e.getCause()).answer;
            }
            throw new IllegalStateException(e.getCause());
        } catch (IllegalAccessException e) {
            throw new IllegalStateException(e);
        }
    }

    private long call(String name, long... numbers) {
        String key = name + numbers.length;
        String call = name + Arrays.toString(numbers);
        long due = answer(y, PLAIN.get(key), numbers);
        long got = answer(x, OURS.get(key), numbers);
        calls++;
        told.append(call).append(" -> ").append(due).append('\n');
        if (got != due && !wrong) {
            wrong = true;
            System.out.println("RunsTest, run " + seed + ":\n" + told);
        }
        c.due("run " + seed + ", call " + calls + " " + call, got, due);
        return due;
    }

    /** A number of least .. most; seldom any other. */
    private int any(int least, int most) {
        int chance = r.nextInt(2 * tame);
        if (chance == 0) {
            return EDGES[r.nextInt(EDGES.length)];
        }
        return chance == 1 ? r.nextInt() : least + r.nextInt(most - least + 1);
    }

    private int aPort() {
        return any(0, ports - 1);
    }

    private int aDhow() {
        return any(0, dhows - 1);
    }

    private int aGood() {
        return any(0, 3);
    }

    /** Mostly one of which the plain model says that it is so (asking it is no call). */
    private int mostly(int count, IntPredicate so) {
        int[] such = IntStream.range(0, count).filter(so).toArray();
        return such.length == 0 || r.nextInt(10) == 0 ? any(0, Math.max(0, count - 1)) : such[r.nextInt(such.length)];
    }

    private int aDhowInPort() {
        return mostly(y.count(1), dhow -> y.told(dhow, 6) == 0 && y.told(dhow, 1) < 0);
    }

    private int aDhowAtSea() {
        return mostly(y.count(1), dhow -> y.told(dhow, 1) >= 0);
    }

    private int aDhowThatCan(boolean end) {
        return mostly(y.count(1), dhow -> y.told(dhow, 6) == 0 && y.told(dhow, 1) < 0 && y.told(dhow, 5) >= 0 == end);
    }

    // ---- a run

    private void begin() {
        for (int i = 0; i < ports; i++) {
            call("port", any(0, far), any(0, far));
            for (int n = 0; n < 2; n++) {
                call("wants", i, aGood(), any(1, 99), any(0, 9));
            }
        }
        for (int month = 0; month < 12; month += 1 + r.nextInt(3)) {
            call("wind", month, any(-2, 2));
        }
        for (int i = 0; i < dhows; i++) {
            call("dhow", aPort(), any(1, 40), any(0, coins));
        }
    }

    private void step() {
        int chance = r.nextInt(100);
        if (chance < 45) {
            trade();
        } else if (chance < 70) {
            share();
        } else if (chance < 76) {
            custom();
        } else if (chance < 92) {
            ask();
        } else {
            host();
        }
    }

    private void trade() {
        int chance = r.nextInt(20);
        if (chance < 5) {
            call("buy", aDhowInPort(), aGood(), any(1, 1 + r.nextInt(20)));
        } else if (chance < 9) {
            int dhow = aDhowInPort();
            int good = mostly(4, g -> y.count(1) > dhow && dhow >= 0 && y.good(dhow, g) > 0);
            call("sell", dhow, good, any(1, 1 + r.nextInt(9)));
        } else if (chance < 12) {
            call("sail", aDhowInPort(), aPort());
        } else if (chance < 18) {
            call("days", any(1, r.nextInt(12) == 0 ? 400 : 12));
        } else if (chance == 18) {
            call("wants", aPort(), aGood(), any(1, 99), any(0, 9));
        } else if (r.nextInt(4) == 0) {
            call("lose", aDhowAtSea());
        } else {
            call("wind", any(0, 11), any(-2, 2));
        }
    }

    private void share() {
        int chance = r.nextInt(12);
        if (chance < 5) {
            int dhow = r.nextInt(3) == 0 ? aDhowInPort() : aDhowThatCan(false);
            call("venture", any(0, 5), dhow, any(1, Math.max(1, coins / 2)), any(1, 9));
        } else if (chance < 7) {
            call("begin", aDhowThatCan(false));
        } else if (chance < 9) {
            call("end", aDhowThatCan(true));
        } else if (chance < 11) {
            call("on", mostly(y.count(2), venture -> y.ventureTold(venture, 1) < 0), aDhow());
        } else {
            call("ventureTold", any(0, 15), any(0, 6));
        }
    }

    private void ask() {
        switch (r.nextInt(8)) {
            case 0: call("told", aDhow(), any(0, 6)); break;
            case 1: call("price", aPort(), aGood()); break;
            case 2: call("heard", any(0, 1), any(0, Math.max(dhows, ports) - 1), aPort(), any(-1, 3)); break;
            case 3: call("way", aPort(), aPort(), any(0, 9999)); break;
            case 4: call("order", aDhowInPort(), any(1, 3), lastDay(), any(0, 2)); break;
            case 5: call("leg", aDhowInPort(), any(1, 3), lastDay(), any(0, 2)); break;
            case 6: call("count", any(0, 8)); break;
            default: call("good", aDhow(), aGood()); break;
        }
    }

    private int lastDay() {
        int days = r.nextInt(3) == 0 ? 9999 : y.count(5) + r.nextInt(60);
        return any(Math.min(days, 9999), 9999);
    }

    private void host() {
        switch (r.nextInt(5)) {
            case 0: call("sheet", any(0, 3), any(-1, 2), any(0, 14)); break;
            case 1: case 2: call("cell", any(0, 3), any(0, 12), any(-3, 3)); break;
            case 3: call("winds", any(0, 3), any(0, 2), any(0, 3), any(0, 12)); break;
            default: call("taken", any(0, 15), any(0, 5)); break;
        }
    }

    private void end() {
        for (int dhow = 0; dhow < 4; dhow++) {
            for (int what = 0; what < 7; what++) {
                call("told", dhow, what);
            }
            for (int good = 0; good < 4; good++) {
                call("good", dhow, good);
            }
        }
        for (int venture = 0; venture < 16; venture++) {
            for (int what : new int[] {1, 4, 5, 6}) {
                call("ventureTold", venture, what);
            }
        }
        for (int port = 0; port < 6; port++) {
            for (int good = 0; good < 4; good++) {
                call("price", port, good);
            }
        }
    }

    // ---- texts

    private void custom() {
        int chance = r.nextInt(6);
        if (chance < 2) {
            call("says", any(0, y.count(3) - 1), any(0, 2), any(-300, 300), any(0, 40), any(0, 4), any(0, 9), any(0, 300));
        } else if (chance < 4) {
            call("force", any(0, y.count(3) - 1));
        } else if (chance == 4) {
            call("text");
        } else {
            feed();
        }
    }

    private void feed() {
        String text = "part " + e(3) + ";food " + e(2) + ";loan " + e(2) + (r.nextInt(15) == 0 ? "" : ";");
        byte[] bytes = text.getBytes(StandardCharsets.ISO_8859_1);
        if (r.nextInt(7) == 0) {
            String signs = "();+-*<= \n0a9zno";
            bytes[r.nextInt(bytes.length)] = (byte) signs.charAt(r.nextInt(signs.length()));
        }
        if (bytes.length > 80 || y.count(4) != 0) {
            call("text");
            return;
        }
        for (int from = 0; from < bytes.length; from += 8) {
            int n = Math.min(8, bytes.length - from);
            long number = 0;
            for (int i = 0; i < n; i++) {
                number |= (bytes[from + i] & 255L) << (8 * i);
            }
            call("feed", n, number);
        }
        call("text");
    }

    private String e(int depth) {
        String[] ones = {"gain", "days", "men", "parts", "owed", "month", "0", "1", "7", "40", "9999", "parts", "owed"};
        if (depth == 0 || r.nextInt(3) == 0) {
            return ones[r.nextInt(ones.length)];
        }
        String[] joins = {"+", "-", "*", "<", "=", " and ", " or ", "+", "*"};
        switch (r.nextInt(6)) {
            case 0: return "-" + e(depth - 1);
            case 1: return "(" + e(depth - 1) + ")";
            case 2: return "not " + e(depth - 1);
            default: return e(depth - 1) + joins[r.nextInt(joins.length)] + e(depth - 1);
        }
    }
}
