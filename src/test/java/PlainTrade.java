import java.util.ArrayList;
import java.util.List;
import java.util.Map;
import java.util.TreeMap;

/** The whole document once more, as plainly as it goes: lists, maps, all orders tried, refusals by exceptions. */
final class PlainTrade {
    private static final long NO = -4611686018427387904L;

    /** What a call answers that is refused, or that has no answer. */
    static final class Refused extends RuntimeException {
        private static final long serialVersionUID = 1;
        final long answer;

        Refused(long answer) {
            super(null, null, false, false);
            this.answer = answer;
        }
    }

    private static final class Port {
        int x, y;
        int[] base = {10, 10, 10, 10}, fall = new int[4], landed = new int[4];
        /** Of ports what is heard: the day and four prices. */
        Map<Integer, int[]> words = new TreeMap<>();

        int price(int good) {
            return Math.max(1, base[good] - fall[good] * landed[good] / 10);
        }
    }

    private static final class Dhow {
        int port, comes = -1, hold, purse, stake = -1, began;
        int[] goods = new int[4];
        Map<Integer, int[]> words = new TreeMap<>();
        boolean lost;

        boolean isInPort() {
            return !lost && comes < 0;
        }

        int aboard() {
            return goods[0] + goods[1] + goods[2] + goods[3];
        }

        int pay(long coins) {
            int paid = (int) Math.max(0, Math.min(coins, purse));
            purse -= paid;
            return paid;
        }
    }

    private static final class Venture {
        int kind, dhow, amount, parts, owed, got;
        boolean over;
        long weight;
    }

    private final List<Port> ports = new ArrayList<>();
    private final List<Dhow> dhows = new ArrayList<>();
    private final List<Venture> ventures = new ArrayList<>();
    private final List<PlainText> texts = new ArrayList<>();
    private final int[] winds = new int[12];
    private final int[][] sheets = new int[4][];
    private final int[] sorts = new int[4];
    private String tape = "";
    private int day = 0;
    private int rule = 0;

    PlainTrade() {
        texts.add(new PlainText("part parts ; food days * men ; loan owed ;"));
    }

    // ---- refusals

    private static void need(boolean held, long answer) {
        if (!held) {
            throw new Refused(answer);
        }
    }

    private static void orBad(boolean held) {
        need(held, -2);
    }

    private static void orState(boolean held) {
        need(held, -3);
    }

    private static void orFull(boolean held) {
        need(held, -4);
    }

    private static boolean in(long n, long least, long most) {
        return least <= n && n <= most;
    }

    private static boolean of(List<?> list, int n) {
        return in(n, 0, list.size() - 1);
    }

    // ---- ports

    int port(int x, int y) {
        orBad(in(x, 0, 99) && in(y, 0, 99));
        orFull(ports.size() < 6);
        Port p = new Port();
        p.x = x;
        p.y = y;
        ports.add(p);
        return ports.size() - 1;
    }

    int wants(int port, int good, int base, int fall) {
        orBad(of(ports, port) && in(good, 0, 3) && in(base, 1, 99) && in(fall, 0, 9));
        ports.get(port).base[good] = base;
        ports.get(port).fall[good] = fall;
        return ports.get(port).price(good);
    }

    int price(int port, int good) {
        orBad(of(ports, port) && in(good, 0, 3));
        return ports.get(port).price(good);
    }

    int wind(int month, int w) {
        orBad(in(month, 0, 11) && in(w, -2, 2));
        winds[month] = w;
        return 1;
    }

    int winds(int sheet, int sort, int from, int n) {
        orBad(in(sheet, 0, 3) && in(sort, 0, 2) && in(n, 0, 12));
        need(sheets[sheet] == null || sorts[sheet] == sort, -13);
        need(sheets[sheet] != null, -11);
        for (int month = 0; month < n; month++) {
            long place = (long) from + month;
            need(in(place, 0, sheets[sheet].length - 1), -12);
            winds[month] = Math.max(-2, Math.min(2, sheets[sheet][(int) place]));
        }
        return n;
    }

    /** -1: there is none. */
    private int days(Port a, Port b, int leaves) {
        int wind = winds[leaves / 30 % 12];
        int speed = a.x < b.x ? 2 + wind : a.x > b.x ? 2 - wind : 2;
        if (speed == 0) {
            return -1;
        }
        double far = Math.abs(a.x - b.x) + Math.abs(a.y - b.y);
        return (int) Math.max(1, Math.ceil(far / speed));
    }

    int way(int a, int b, int onDay) {
        orBad(of(ports, a) && of(ports, b) && a != b && in(onDay, 0, 9999));
        return days(ports.get(a), ports.get(b), onDay);
    }

    // ---- dhows

    int dhow(int port, int hold, int purse) {
        orBad(of(ports, port) && in(hold, 1, 99) && in(purse, 0, 99999));
        orFull(dhows.size() < 4);
        Dhow d = new Dhow();
        d.port = port;
        d.hold = hold;
        d.purse = purse;
        dhows.add(d);
        return dhows.size() - 1;
    }

    int told(int dhow, int what) {
        orBad(of(dhows, dhow) && in(what, 0, 6));
        Dhow d = dhows.get(dhow);
        return new int[] {d.port, d.comes, d.hold, d.purse, d.aboard(), d.stake, d.lost ? 1 : 0}[what];
    }

    int good(int dhow, int good) {
        orBad(of(dhows, dhow) && in(good, 0, 3));
        return dhows.get(dhow).goods[good];
    }

    int sell(int dhow, int good, int n) {
        orBad(of(dhows, dhow) && in(good, 0, 3) && n >= 1);
        Dhow d = dhows.get(dhow);
        orState(d.isInPort() && n <= d.goods[good]);
        Port p = ports.get(d.port);
        d.purse += n * p.price(good);
        d.goods[good] -= n;
        p.landed[good] += n;
        return d.purse;
    }

    int buy(int dhow, int good, int n) {
        orBad(of(dhows, dhow) && in(good, 0, 3) && in(n, 1, 99));
        Dhow d = dhows.get(dhow);
        orState(d.isInPort() && d.aboard() + n <= d.hold);
        Port p = ports.get(d.port);
        orState(n * (p.price(good) + 1) <= d.purse);
        d.purse -= n * (p.price(good) + 1);
        d.goods[good] += n;
        p.landed[good] = Math.max(0, p.landed[good] - n);
        return d.purse;
    }

    int sail(int dhow, int port) {
        orBad(of(dhows, dhow) && of(ports, port));
        Dhow d = dhows.get(dhow);
        orBad(!d.isInPort() || d.port != port);
        orState(d.isInPort());
        int days = days(ports.get(d.port), ports.get(port), day);
        orState(days > 0);
        talk(d);
        d.port = port;
        d.comes = day + days;
        return d.comes;
    }

    int days(int n) {
        orBad(in(n, 1, 400));
        orFull(day + n <= 9999);
        for (int i = 0; i < n; i++) {
            day++;
            for (Dhow d : dhows) {
                if (d.comes == day) {
                    d.comes = -1;
                    talk(d);
                }
            }
        }
        return day;
    }

    int lose(int dhow) {
        orBad(of(dhows, dhow));
        Dhow d = dhows.get(dhow);
        orState(!d.lost && d.comes >= 0);
        d.lost = true;
        d.port = -1;
        d.comes = -1;
        d.stake = -1;
        d.purse = 0;
        d.goods = new int[4];
        for (Venture v : ventures) {
            if (v.dhow == dhow && !v.over) {
                v.over = v.kind != 2;
                v.dhow = v.kind == 2 ? -1 : dhow;
            }
        }
        return 1;
    }

    // ---- news

    private int[] wordOfItself(Port p) {
        return new int[] {day, p.price(0), p.price(1), p.price(2), p.price(3)};
    }

    /** All that a port has heard, what it has of itself with it. */
    private Map<Integer, int[]> wordsOf(int port) {
        Map<Integer, int[]> words = new TreeMap<>(ports.get(port).words);
        words.put(port, wordOfItself(ports.get(port)));
        return words;
    }

    private static void get(Map<Integer, int[]> mine, Map<Integer, int[]> others) {
        others.forEach((port, word) -> mine.merge(port, word, (old, other) -> other[0] > old[0] ? other : old));
    }

    private void talk(Dhow d) {
        Map<Integer, int[]> ofPort = wordsOf(d.port);
        Map<Integer, int[]> ofDhow = new TreeMap<>(d.words);
        get(d.words, ofPort);
        get(ports.get(d.port).words, ofDhow);
    }

    int heard(int who, int n, int port, int what) {
        orBad(in(who, 0, 1) && of(who == 0 ? dhows : ports, n) && of(ports, port) && in(what, -1, 3));
        need(who == 1 || !dhows.get(n).lost, -1);
        Map<Integer, int[]> words = who == 0 ? dhows.get(n).words : wordsOf(n);
        need(words.containsKey(port), -1);
        return words.get(port)[what + 1];
    }

    // ---- ventures

    int venture(int kind, int dhow, int amount, int parts) {
        orBad(in(kind, 0, 5) && of(dhows, dhow) && in(amount, 1, 9999) && in(parts, 1, 9));
        Dhow d = dhows.get(dhow);
        orState(d.isInPort());
        orState(d.stake < 0 || kind == 1);
        orState(kind != 2 || d.purse >= amount);
        orFull(ventures.size() < 16);
        Venture v = new Venture();
        v.kind = kind;
        v.dhow = dhow;
        v.amount = amount;
        v.parts = parts;
        v.owed = kind == 2 ? amount : kind == 5 ? amount + amount / 10 : 0;
        d.purse += kind == 1 ? 0 : kind == 2 ? -amount : amount;
        ventures.add(v);
        return ventures.size() - 1;
    }

    int ventureTold(int venture, int what) {
        orBad(of(ventures, venture) && in(what, 0, 6));
        Venture v = ventures.get(venture);
        return new int[] {v.kind, v.dhow, v.amount, v.parts, v.owed, v.over ? 1 : 0, v.got}[what];
    }

    int on(int venture, int dhow) {
        orBad(of(ventures, venture) && of(dhows, dhow) && !dhows.get(dhow).lost);
        orState(ventures.get(venture).dhow < 0);
        ventures.get(venture).dhow = dhow;
        return 1;
    }

    int begin(int dhow) {
        orBad(of(dhows, dhow));
        Dhow d = dhows.get(dhow);
        orState(d.isInPort() && d.stake < 0);
        d.stake = d.purse;
        d.began = day;
        return d.stake;
    }

    int end(int dhow) {
        orBad(of(dhows, dhow));
        Dhow d = dhows.get(dhow);
        orState(d.isInPort() && d.stake >= 0);
        List<Venture> hers = new ArrayList<>(ventures);
        hers.removeIf(v -> v.over || v.dhow != dhow);
        int men = (int) hers.stream().filter(v -> v.kind == 1 || v.kind == 2).count();
        int gain = d.purse - d.stake;
        int days = day - d.began;
        int month = day / 30 % 12;
        PlainText custom = texts.get(rule);
        d.pay(custom.says(1, gain, days, men, 0, 0, month));
        for (Venture v : hers) {
            if (v.kind == 5) {
                v.got += d.pay(v.owed);
                v.over = true;
            }
        }
        hers.removeIf(v -> v.over);
        long rest = Math.max(0, d.purse - d.stake);
        long all = 0;
        for (Venture v : hers) {
            long part = Math.max(0, custom.says(0, gain, days, men, v.parts, v.owed, month));
            v.weight = v.kind == 4 ? 0 : v.kind == 3 ? part / 2 : part;
            all += v.weight;
        }
        for (Venture v : hers) {
            long due = v.kind == 4 ? v.amount : all == 0 ? 0 : rest * v.weight / all;
            if (v.kind == 2) {
                long back = Math.max(0, custom.says(2, gain, days, men, v.parts, v.owed, month));
                back = Math.min(back, Math.min(due, v.owed));
                v.owed -= (int) back;
                due -= back;
            }
            v.got += d.pay(due);
            v.over = v.kind == 0 || v.kind == 3 || v.kind == 4 || v.kind == 2 && v.owed == 0;
        }
        d.stake = -1;
        return d.purse;
    }

    // ---- texts

    int feed(int n, long bytes) {
        orBad(in(n, 1, 8));
        orFull(tape.length() + n <= 160);
        for (int i = 0; i < n; i++) {
            tape += (char) (bytes & 255);
            bytes >>= 8;
        }
        return tape.length();
    }

    int text() {
        orFull(texts.size() < 6);
        String source = tape;
        tape = "";
        try {
            texts.add(new PlainText(source));
        } catch (PlainText.Fault fault) {
            return -100 - fault.place;
        }
        return texts.size() - 1;
    }

    int force(int text) {
        orBad(of(texts, text));
        int was = rule;
        rule = text;
        return was;
    }

    long says(int text, int part, int gain, int days, int men, int parts, int owed) {
        need(of(texts, text) && in(part, 0, 2) && in(gain, -100000, 100000) && in(days, 0, 9999) && in(men, 0, 16)
                && in(parts, 0, 9) && in(owed, 0, 99999), NO);
        return texts.get(text).says(part, gain, days, men, parts, owed, day / 30 % 12);
    }

    // ---- orders

    private static final class Order {
        int worth, comes;
        List<int[]> legs;
    }

    /** Null: there is none. */
    private Order orderOf(Dhow d, int n, int last) {
        Map<Integer, int[]> words = new TreeMap<>(d.words);
        get(words, wordsOf(d.port));
        int coins = d.purse;
        for (int good = 0; good < 4; good++) {
            coins += d.goods[good] * words.get(d.port)[good + 1];
        }
        Order best = null;
        for (int legs = 1; legs <= n; legs++) {
            best = bestOf(best, words, d, d.port, coins, day, legs, last, List.of());
        }
        return best;
    }

    private Order bestOf(Order best, Map<Integer, int[]> words, Dhow d, int from, int coins, int leaves, int more, int last,
            List<int[]> legs) {
        if (more == 0) {
            if (best != null && best.worth >= coins) {
                return best;
            }
            Order found = new Order();
            found.worth = coins;
            found.comes = leaves;
            found.legs = legs;
            return found;
        }
        for (int good = 0; good <= 4; good++) {
            for (int to : words.keySet()) {
                int days = to == from ? -1 : days(ports.get(from), ports.get(to), leaves);
                if (days < 0 || leaves + days > last) {
                    continue;
                }
                int then = coins;
                if (good < 4) {
                    int cost = words.get(from)[good + 1] + 1;
                    int n = Math.min(d.hold, coins / cost);
                    then = coins - n * cost + n * words.get(to)[good + 1];
                }
                List<int[]> on = new ArrayList<>(legs);
                on.add(new int[] {good, to});
                best = bestOf(best, words, d, to, then, leaves + days, more - 1, last, on);
            }
        }
        return best;
    }

    long order(int dhow, int n, int last, int what) {
        need(of(dhows, dhow) && in(n, 1, 3) && in(last, 0, 9999) && in(what, 0, 2), NO);
        need(dhows.get(dhow).isInPort(), NO);
        Order order = orderOf(dhows.get(dhow), n, last);
        need(order != null, NO);
        return what == 0 ? order.worth : what == 1 ? order.legs.size() : order.comes;
    }

    int leg(int dhow, int n, int last, int i) {
        orBad(of(dhows, dhow) && in(n, 1, 3) && in(last, 0, 9999));
        need(dhows.get(dhow).isInPort(), -1);
        Order order = orderOf(dhows.get(dhow), n, last);
        need(order != null && in(i, 0, order.legs.size() - 1), -1);
        return 10 * order.legs.get(i)[0] + order.legs.get(i)[1];
    }

    int count(int what) {
        orBad(in(what, 0, 8));
        int lost = (int) dhows.stream().filter(d -> d.lost).count();
        int going = (int) ventures.stream().filter(v -> !v.over).count();
        return new int[] {ports.size(), dhows.size(), ventures.size(), texts.size(), tape.length(), day, rule, lost, going}[what];
    }

    // ---- the host

    int sheet(int sheet, int sort, int n) {
        orBad(in(sheet, 0, 3) && in(sort, -1, 2));
        if (sort == -1) {
            sheets[sheet] = null;
            return 1;
        }
        orBad(n <= 40);
        need(n >= 0, -14);
        sheets[sheet] = new int[n];
        sorts[sheet] = sort;
        return 1;
    }

    int cell(int sheet, int i, int v) {
        orBad(in(sheet, 0, 3));
        need(sheets[sheet] != null, -11);
        need(in(i, 0, sheets[sheet].length - 1), -12);
        sheets[sheet][i] = sorts[sheet] == 0 ? (byte) v : sorts[sheet] == 1 ? (short) v : v;
        return 1;
    }

    int taken(int venture, int k) {
        orBad(in(k, 0, 5));
        need(of(ventures, venture), -11);
        List<List<Integer>> under = List.of(List.of(0), List.of(1, 0), List.of(2, 1, 0), List.of(3, 0), List.of(4, 3, 0),
                List.of(5, 2, 1, 0));
        need(under.get(ventures.get(venture).kind).contains(k), -13);
        return ventures.get(venture).amount;
    }
}
