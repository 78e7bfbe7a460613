import java.util.Arrays;

/** The monsoon trade of ../shared/DOC.md; words in capitals are the document's terms. */
public final class MonsoonTrade {
    public static final int NONE = -1, BAD = -2, STATE = -3, FULL = -4;
    public static final long NO = -4611686018427387904L;

    private static final int NOTHING = -11, OUTSIDE = -12, OTHER_SORT = -13, SIZE_BELOW_0 = -14;

    private static final int PORTS = 6, DHOWS = 4, VENTURES = 16, TEXTS = 6, GOODS = 4;
    private static final int MONTHS = 12, MONTH_DAYS = 30, MOST_DAY = 9999;
    private static final int SHEETS = 4, SORTS = 3, CELLS = 40, TAPE = 160, MOST_LEGS = 3;

    private static final int KINDS = 6, SHARE = 1, LOAN = 2, TRUST = 3, SALE = 4, BOTTOM = 5;
    /** Of each KIND the one that it is directly under; -1: it is under none. */
    private static final int[] UNDER = {-1, 0, 1, 0, 3, 2};

    private static final int PARTS = 3, PART = 0, FOOD = 1, LOAN_PART = 2, FAULT_BASE = -100;
    private static final String FIRST_TEXT = "part parts ; food days * men ; loan owed ;";

    private final Sea sea = new Sea();
    private final Dhow[] dhows = new Dhow[DHOWS];
    private final Venture[] ventures = new Venture[VENTURES];
    private final Text[] texts = new Text[TEXTS];
    private final Sheet[] sheets = new Sheet[SHEETS];
    private final Tokens tape = new Tokens();
    private final Reader reader = new Reader(tape);
    private final Reckoner reckoner = new Reckoner();
    private final Planner planner = new Planner(sea);
    private int dhowCount;
    private int ventureCount;
    private int textCount;
    private int rule;
    private int today;

    public MonsoonTrade() {
        for (int i = 0; i < DHOWS; i++) {
            dhows[i] = new Dhow();
        }
        for (int i = 0; i < VENTURES; i++) {
            ventures[i] = new Venture();
        }
        for (int i = 0; i < TEXTS; i++) {
            texts[i] = new Text();
        }
        for (int i = 0; i < SHEETS; i++) {
            sheets[i] = new Sheet();
        }
        tape.addAll(FIRST_TEXT);
        reader.read();
        tape.clear();
        texts[0].keep(reader);
        textCount = 1;
    }

    // ---- ports, winds and ways

    public int port(int x, int y) {
        if (!within(x, 0, 99) || !within(y, 0, 99)) {
            return BAD;
        }
        if (sea.size >= PORTS) {
            return FULL;
        }
        return sea.found(x, y);
    }

    public int wants(int port, int good, int base, int fall) {
        if (!sea.has(port) || !isGood(good) || !within(base, 1, 99) || !within(fall, 0, 9)) {
            return BAD;
        }
        Port p = sea.ports[port];
        p.base[good] = base;
        p.fall[good] = fall;
        return p.priceOf(good);
    }

    public int price(int port, int good) {
        if (!sea.has(port) || !isGood(good)) {
            return BAD;
        }
        return sea.ports[port].priceOf(good);
    }

    public int wind(int month, int w) {
        if (!within(month, 0, MONTHS - 1) || !within(w, -2, 2)) {
            return BAD;
        }
        sea.blowing[month] = w;
        return 1;
    }

    public int winds(int sheet, int sort, int from, int n) {
        if (!isSheet(sheet) || !within(sort, 0, SORTS - 1) || !within(n, 0, MONTHS)) {
            return BAD;
        }
        Sheet s = sheets[sheet];
        if (!s.missing() && s.sort != sort) {
            return OTHER_SORT;
        }
        if (s.missing()) {
            return NOTHING;
        }
        for (int month = 0; month < n; month++) {
            int i = from + month;
            if (!s.holds(i)) {
                return OUTSIDE;
            }
            sea.blowing[month] = clamp(s.cells[i], -2, 2);
        }
        return n;
    }

    public int way(int a, int b, int day) {
        if (!sea.has(a) || !sea.has(b) || a == b || !within(day, 0, MOST_DAY)) {
            return BAD;
        }
        return sea.crossing(a, b, day);
    }

    // ---- dhows and news

    public int dhow(int port, int hold, int purse) {
        if (!sea.has(port) || !within(hold, 1, 99) || !within(purse, 0, 99999)) {
            return BAD;
        }
        if (dhowCount >= DHOWS) {
            return FULL;
        }
        Dhow d = dhows[dhowCount];
        d.port = port;
        d.hold = hold;
        d.purse = purse;
        dhowCount++;
        return dhowCount - 1;
    }

    public int told(int dhow, int what) {
        if (!isDhow(dhow)) {
            return BAD;
        }
        Dhow d = dhows[dhow];
        switch (what) {
            case 0: return d.port;
            case 1: return d.comes;
            case 2: return d.hold;
            case 3: return d.purse;
            case 4: return d.aboard();
            case 5: return d.stake;
            case 6: return d.lost ? 1 : 0;
            default: return BAD;
        }
    }

    public int good(int dhow, int good) {
        if (!isDhow(dhow) || !isGood(good)) {
            return BAD;
        }
        return dhows[dhow].goods[good];
    }

    public int sell(int dhow, int good, int n) {
        if (!isDhow(dhow) || !isGood(good) || n < 1) {
            return BAD;
        }
        Dhow d = dhows[dhow];
        if (!d.inPort() || d.goods[good] < n) {
            return STATE;
        }
        Port p = sea.ports[d.port];
        d.purse += n * p.priceOf(good);
        d.goods[good] -= n;
        p.landed[good] += n;
        return d.purse;
    }

    public int buy(int dhow, int good, int n) {
        if (!isDhow(dhow) || !isGood(good) || !within(n, 1, 99)) {
            return BAD;
        }
        Dhow d = dhows[dhow];
        if (!d.inPort() || d.aboard() + n > d.hold) {
            return STATE;
        }
        Port p = sea.ports[d.port];
        int cost = n * (p.priceOf(good) + 1);
        if (cost > d.purse) {
            return STATE;
        }
        d.purse -= cost;
        d.goods[good] += n;
        p.landed[good] = Math.max(0, p.landed[good] - n);
        return d.purse;
    }

    public int sail(int dhow, int port) {
        if (!isDhow(dhow) || !sea.has(port)) {
            return BAD;
        }
        Dhow d = dhows[dhow];
        if (d.inPort() && d.port == port) {
            return BAD;
        }
        if (!d.inPort()) {
            return STATE;
        }
        int crossing = sea.crossing(d.port, port, today);
        if (crossing == NONE) {
            return STATE;
        }
        exchangeNews(d);
        d.port = port;
        d.comes = today + crossing;
        return d.comes;
    }

    public int days(int n) {
        if (!within(n, 1, 400)) {
            return BAD;
        }
        if (today + n > MOST_DAY) {
            return FULL;
        }
        for (int i = 0; i < n; i++) {
            today++;
            bringIn();
        }
        return today;
    }

    public int lose(int dhow) {
        if (!isDhow(dhow)) {
            return BAD;
        }
        Dhow d = dhows[dhow];
        if (!d.atSea()) {
            return STATE;
        }
        d.goDown();
        for (int i = 0; i < ventureCount; i++) {
            if (ventures[i].isOn(dhow)) {
                ventures[i].goDown();
            }
        }
        return 1;
    }

    public int heard(int who, int n, int port, int what) {
        boolean known = who == 0 && isDhow(n) || who == 1 && sea.has(n);
        if (!known || !sea.has(port) || !within(what, -1, GOODS - 1)) {
            return BAD;
        }
        if (who == 0 && dhows[n].lost) {
            return NONE;
        }
        if (who == 1) {
            sea.tellItself(n, today);
        }
        News news = who == 0 ? dhows[n].news : sea.ports[n].news;
        if (what == -1 || !news.knows(port)) {
            return news.ofDay[port];
        }
        return news.priceOf(port, what);
    }

    // ---- ventures

    public int venture(int kind, int dhow, int amount, int parts) {
        if (!within(kind, 0, KINDS - 1) || !isDhow(dhow) || !within(amount, 1, 9999) || !within(parts, 1, 9)) {
            return BAD;
        }
        Dhow d = dhows[dhow];
        if (!d.inPort() || kind != SHARE && d.onVoyage() || kind == LOAN && d.purse < amount) {
            return STATE;
        }
        if (ventureCount >= VENTURES) {
            return FULL;
        }
        ventures[ventureCount].found(kind, dhow, amount, parts);
        d.purse += ventures[ventureCount].brings();
        ventureCount++;
        return ventureCount - 1;
    }

    public int ventureTold(int venture, int what) {
        if (!isVenture(venture)) {
            return BAD;
        }
        Venture v = ventures[venture];
        switch (what) {
            case 0: return v.kind;
            case 1: return v.dhow;
            case 2: return v.amount;
            case 3: return v.parts;
            case 4: return v.owed;
            case 5: return v.over ? 1 : 0;
            case 6: return v.got;
            default: return BAD;
        }
    }

    public int on(int venture, int dhow) {
        if (!isVenture(venture) || !isDhow(dhow) || dhows[dhow].lost) {
            return BAD;
        }
        Venture v = ventures[venture];
        if (!v.waits()) {
            return STATE;
        }
        v.dhow = dhow;
        return 1;
    }

    public int begin(int dhow) {
        if (!isDhow(dhow)) {
            return BAD;
        }
        Dhow d = dhows[dhow];
        if (!d.inPort() || d.onVoyage()) {
            return STATE;
        }
        d.stake = d.purse;
        d.began = today;
        return d.stake;
    }

    public int end(int dhow) {
        if (!isDhow(dhow)) {
            return BAD;
        }
        Dhow d = dhows[dhow];
        if (!d.inPort() || !d.onVoyage()) {
            return STATE;
        }
        reckoner.setVoyage(d.purse - d.stake, today - d.began, menOf(dhow), monthOf(today));
        reckoner.setOwn(0, 0);
        d.pay(reckoner.reckon(texts[rule], FOOD));
        payBottoms(dhow);
        int rest = Math.max(0, d.purse - d.stake);
        long allWeights = weighAll(dhow);
        for (int i = 0; i < ventureCount; i++) {
            if (ventures[i].isOn(dhow)) {
                partWith(ventures[i], d, rest, allWeights);
            }
        }
        d.stake = NONE;
        return d.purse;
    }

    public int feed(int n, long bytes) {
        if (!within(n, 1, 8)) {
            return BAD;
        }
        if (tape.size + n > TAPE) {
            return FULL;
        }
        for (int i = 0; i < n; i++) {
            tape.add((byte) (bytes >> (8 * i)));
        }
        return tape.size;
    }

    public int text() {
        if (textCount >= TEXTS) {
            return FULL;
        }
        int fault = reader.read();
        tape.clear();
        if (fault != NONE) {
            return FAULT_BASE - fault;
        }
        texts[textCount].keep(reader);
        textCount++;
        return textCount - 1;
    }

    public int force(int text) {
        if (!isText(text)) {
            return BAD;
        }
        int before = rule;
        rule = text;
        return before;
    }

    public long says(int text, int part, int gain, int days, int men, int parts, int owed) {
        if (!isText(text) || !within(part, 0, PARTS - 1) || !within(gain, -100000, 100000)) {
            return NO;
        }
        if (!within(days, 0, MOST_DAY) || !within(men, 0, 16) || !within(parts, 0, 9) || !within(owed, 0, 99999)) {
            return NO;
        }
        reckoner.setVoyage(gain, days, men, monthOf(today));
        reckoner.setOwn(parts, owed);
        return reckoner.reckon(texts[text], part);
    }

    // ---- orders

    public long order(int dhow, int n, int last, int what) {
        if (!isPlan(dhow, n, last) || !within(what, 0, 2) || !plan(dhow, n, last)) {
            return NO;
        }
        switch (what) {
            case 0: return planner.worth;
            case 1: return planner.legs;
            default: return planner.comes;
        }
    }

    public int leg(int dhow, int n, int last, int i) {
        if (!isPlan(dhow, n, last)) {
            return BAD;
        }
        if (!within(i, 0, MOST_LEGS - 1) || !plan(dhow, n, last) || i >= planner.legs) {
            return NONE;
        }
        return 10 * planner.goods[i] + planner.stops[i];
    }

    public int count(int what) {
        switch (what) {
            case 0: return sea.size;
            case 1: return dhowCount;
            case 2: return ventureCount;
            case 3: return textCount;
            case 4: return tape.size;
            case 5: return today;
            case 6: return rule;
            case 7: return lostDhows();
            case 8: return openVentures();
            default: return BAD;
        }
    }

    // ---- the host

    public int sheet(int sheet, int sort, int n) {
        if (!isSheet(sheet) || !within(sort, -1, SORTS - 1) || sort != NONE && n > CELLS) {
            return BAD;
        }
        if (sort != NONE && n < 0) {
            return SIZE_BELOW_0;
        }
        sheets[sheet].become(sort, sort == NONE ? 0 : n);
        return 1;
    }

    public int cell(int sheet, int i, int v) {
        if (!isSheet(sheet)) {
            return BAD;
        }
        Sheet s = sheets[sheet];
        if (s.missing()) {
            return NOTHING;
        }
        if (!s.holds(i)) {
            return OUTSIDE;
        }
        s.put(i, v);
        return 1;
    }

    public int taken(int venture, int k) {
        if (!within(k, 0, KINDS - 1)) {
            return BAD;
        }
        if (!isVenture(venture)) {
            return NOTHING;
        }
        return ventures[venture].isOfKind(k) ? ventures[venture].amount : OTHER_SORT;
    }

    // ---- what the calls share

    private static boolean within(int number, int least, int most) {
        return number >= least && number <= most;
    }

    private static int clamp(int number, int least, int most) {
        return Math.max(least, Math.min(number, most));
    }

    private static int monthOf(int day) {
        return day / MONTH_DAYS % MONTHS;
    }

    private static boolean isGood(int good) {
        return within(good, 0, GOODS - 1);
    }

    private static boolean isSheet(int sheet) {
        return within(sheet, 0, SHEETS - 1);
    }

    private boolean isDhow(int dhow) {
        return within(dhow, 0, dhowCount - 1);
    }

    private boolean isVenture(int venture) {
        return within(venture, 0, ventureCount - 1);
    }

    private boolean isText(int text) {
        return within(text, 0, textCount - 1);
    }

    private boolean isPlan(int dhow, int n, int last) {
        return isDhow(dhow) && within(n, 1, MOST_LEGS) && within(last, 0, MOST_DAY);
    }

    private void bringIn() {
        for (int i = 0; i < dhowCount; i++) {
            Dhow d = dhows[i];
            if (d.atSea() && d.comes == today) {
                d.comes = NONE;
                exchangeNews(d);
            }
        }
    }

    /** Of a DHOW in a PORT, with that PORT. */
    private void exchangeNews(Dhow d) {
        sea.tellItself(d.port, today);
        News inPort = sea.ports[d.port].news;
        d.news.hear(inPort);
        inPort.hear(d.news);
    }

    /** Whether there is an ORDER, which stands in the planner then. */
    private boolean plan(int dhow, int n, int last) {
        Dhow d = dhows[dhow];
        if (!d.inPort()) {
            return false;
        }
        sea.tellItself(d.port, today);
        planner.learn(d, today, last);
        planner.find(n);
        planner.trace();
        return planner.legs > 0;
    }

    private int lostDhows() {
        int lost = 0;
        for (int i = 0; i < dhowCount; i++) {
            if (dhows[i].lost) {
                lost++;
            }
        }
        return lost;
    }

    private int openVentures() {
        int open = 0;
        for (int i = 0; i < ventureCount; i++) {
            if (!ventures[i].over) {
                open++;
            }
        }
        return open;
    }

    private int menOf(int dhow) {
        int men = 0;
        for (int i = 0; i < ventureCount; i++) {
            Venture v = ventures[i];
            if (v.isOn(dhow) && (v.kind == SHARE || v.kind == LOAN)) {
                men++;
            }
        }
        return men;
    }

    private void payBottoms(int dhow) {
        for (int i = 0; i < ventureCount; i++) {
            Venture v = ventures[i];
            if (v.isOn(dhow) && v.kind == BOTTOM) {
                v.got += dhows[dhow].pay(v.owed);
                v.over = true;
            }
        }
    }

    /** Gives each VENTURE of a DHOW its WEIGHT, and answers W. */
    private long weighAll(int dhow) {
        long all = 0;
        for (int i = 0; i < ventureCount; i++) {
            Venture v = ventures[i];
            if (v.isOn(dhow)) {
                v.weight = weigh(v);
                all += v.weight;
            }
        }
        return all;
    }

    private int weigh(Venture v) {
        if (v.kind == SALE) {
            return 0;
        }
        reckoner.setOwn(v.parts, v.owed);
        int weight = Math.max(0, reckoner.reckon(texts[rule], PART));
        return v.kind == TRUST ? weight / 2 : weight;
    }

    private void partWith(Venture v, Dhow d, int rest, long allWeights) {
        int due = allWeights == 0 ? 0 : (int) ((long) rest * v.weight / allWeights);
        if (v.kind == LOAN) {
            reckoner.setOwn(v.parts, v.owed);
            int back = clamp(reckoner.reckon(texts[rule], LOAN_PART), 0, Math.min(due, v.owed));
            v.owed -= back;
            due -= back;
        } else if (v.kind == SALE) {
            due = v.amount;
        }
        v.got += d.pay(due);
        boolean stays = v.kind == SHARE || v.kind == LOAN && v.owed > 0;
        v.over = !stays;
    }

    /** WORDS that a PORT or a DHOW has: of each PORT its day (NONE: no WORD) and PRICES. */
    private static final class News {
        private final int[] ofDay = new int[PORTS];
        private final int[] prices = new int[PORTS * GOODS];

        News() {
            forget();
        }

        void forget() {
            Arrays.fill(ofDay, NONE);
        }

        boolean knows(int port) {
            return ofDay[port] != NONE;
        }

        int priceOf(int port, int good) {
            return prices[port * GOODS + good];
        }

        void note(int port, int day, Port seen) {
            ofDay[port] = day;
            for (int good = 0; good < GOODS; good++) {
                prices[port * GOODS + good] = seen.priceOf(good);
            }
        }

        void hear(News other) {
            for (int port = 0; port < PORTS; port++) {
                if (other.ofDay[port] > ofDay[port]) {
                    ofDay[port] = other.ofDay[port];
                    System.arraycopy(other.prices, port * GOODS, prices, port * GOODS, GOODS);
                }
            }
        }
    }

    private static final class Port {
        private int x;
        private int y;
        private final int[] base = new int[GOODS];
        private final int[] fall = new int[GOODS];
        private final int[] landed = new int[GOODS];
        private final News news = new News();

        int priceOf(int good) {
            return Math.max(1, base[good] - fall[good] * landed[good] / 10);
        }
    }

    /** The PORTS and WINDS, on which the WAYS depend. */
    private static final class Sea {
        private final Port[] ports = new Port[PORTS];
        private final int[] blowing = new int[MONTHS];
        private int size;

        Sea() {
            for (int i = 0; i < PORTS; i++) {
                ports[i] = new Port();
            }
        }

        boolean has(int port) {
            return within(port, 0, size - 1);
        }

        int found(int x, int y) {
            Port p = ports[size];
            p.x = x;
            p.y = y;
            Arrays.fill(p.base, 10);
            size++;
            return size - 1;
        }

        /** What a PORT has of itself is of the day: it is noted ahead of every look at its news. */
        void tellItself(int port, int day) {
            ports[port].news.note(port, day, ports[port]);
        }

        /** The days of THE WAY; NONE: there is none. */
        int crossing(int from, int to, int day) {
            Port a = ports[from];
            Port b = ports[to];
            int speed = 2 + Integer.compare(b.x, a.x) * blowing[monthOf(day)];
            if (speed <= 0) {
                return NONE;
            }
            int far = Math.abs(b.x - a.x) + Math.abs(b.y - a.y);
            return Math.max(1, (far + speed - 1) / speed);
        }
    }

    private static final class Dhow {
        /** In it, or on the way to it if there is a day on which it comes; NONE: LOST. */
        private int port = NONE;
        private int comes = NONE;
        private boolean lost;
        private int hold;
        private int purse;
        private final int[] goods = new int[GOODS];
        private int stake = NONE;
        private int began;
        private final News news = new News();

        boolean inPort() {
            return port != NONE && comes == NONE;
        }

        boolean atSea() {
            return port != NONE && comes != NONE;
        }

        boolean onVoyage() {
            return stake != NONE;
        }

        int aboard() {
            int all = 0;
            for (int good = 0; good < GOODS; good++) {
                all += goods[good];
            }
            return all;
        }

        /** Pays out of the PURSE what is there at most: what was paid. */
        int pay(int coins) {
            int paid = clamp(coins, 0, purse);
            purse -= paid;
            return paid;
        }

        void goDown() {
            lost = true;
            port = NONE;
            comes = NONE;
            purse = 0;
            stake = NONE;
            Arrays.fill(goods, 0);
        }
    }

    private static final class Venture {
        private int kind;
        private int dhow;
        private int amount;
        private int parts;
        private int owed;
        private int got;
        private int weight;
        private boolean over;

        void found(int ofKind, int onDhow, int ofAmount, int ofParts) {
            kind = ofKind;
            dhow = onDhow;
            amount = ofAmount;
            parts = ofParts;
            if (kind == LOAN) {
                owed = amount;
            } else if (kind == BOTTOM) {
                owed = amount + amount / 10;
            }
        }

        /** What comes into the PURSE with it; below 0: goes out. */
        int brings() {
            if (kind == SHARE) {
                return 0;
            }
            return kind == LOAN ? -amount : amount;
        }

        boolean isOn(int someDhow) {
            return !over && dhow == someDhow;
        }

        /** Only LOANS come to wait: see goDown. */
        boolean waits() {
            return dhow == NONE;
        }

        void goDown() {
            if (kind == LOAN) {
                dhow = NONE;
            } else {
                over = true;
            }
        }

        boolean isOfKind(int k) {
            int at = kind;
            for (int i = 0; i < KINDS && at != NONE; i++) {
                if (at == k) {
                    return true;
                }
                at = UNDER[at];
            }
            return false;
        }
    }

    /** A SHEET; its cells are kept as ints that its sort can hold. */
    private static final class Sheet {
        private final int[] cells = new int[CELLS];
        private int sort = NONE;
        private int size;

        boolean missing() {
            return sort == NONE;
        }

        boolean holds(int i) {
            return within(i, 0, size - 1);
        }

        void become(int newSort, int newSize) {
            sort = newSort;
            size = newSize;
            Arrays.fill(cells, 0);
        }

        void put(int i, int v) {
            if (sort == 0) {
                cells[i] = (byte) v;
            } else if (sort == 1) {
                cells[i] = (short) v;
            } else {
                cells[i] = v;
            }
        }
    }

    /** THE TAPE, and the TOKEN of it that is looked at. A sign's kind is its byte. */
    private static final class Tokens {
        private static final int AT_END = 0, WRONG = 1, NUMBER = 2;
        private static final int KEY_PART = 128, KEY_FOOD = 129, KEY_LOAN = 130;
        private static final int KEY_OR = 131, KEY_AND = 132, KEY_NOT = 133;
        /** The NAMES' kinds, in the order of the reckoner's values. */
        private static final int GAIN = 134, DAYS = 135, MEN = 136, PARTS_NAME = 137, OWED = 138, MONTH = 139;
        /** KEYS and NAMES in the order of their kinds, a blank behind each. */
        private static final String WORDS = "part food loan or and not gain days men parts owed month ";
        private static final int MOST_DIGITS = 4;
        private static final String SIGNS = "();+-*<=";

        private final byte[] bytes = new byte[TAPE];
        private int size;
        private int place;
        private int kind;
        private int start;
        private int number;

        void add(byte b) {
            if (size < TAPE) {
                bytes[size] = b;
                size++;
            }
        }

        void addAll(String signs) {
            for (int i = 0; i < signs.length(); i++) {
                add((byte) signs.charAt(i));
            }
        }

        void clear() {
            size = 0;
        }

        void first() {
            place = 0;
            next();
        }

        void next() {
            while (place < size && isBlank(bytes[place])) {
                place++;
            }
            start = place;
            if (place >= size) {
                kind = AT_END;
            } else if (isLetter(bytes[place])) {
                takeWord();
            } else if (isDigit(bytes[place])) {
                takeNumber();
            } else {
                takeSign();
            }
        }

        private void takeWord() {
            while (place < size && isLetter(bytes[place])) {
                place++;
            }
            kind = WRONG;
            int word = 0;
            int at = start;
            boolean same = true;
            for (int i = 0; i < WORDS.length(); i++) {
                char sign = WORDS.charAt(i);
                if (sign != ' ') {
                    same = same && at < place && bytes[at] == sign;
                    at++;
                    continue;
                }
                if (same && at == place) {
                    kind = KEY_PART + word;
                }
                word++;
                at = start;
                same = true;
            }
        }

        private void takeNumber() {
            number = 0;
            while (place < size && isDigit(bytes[place])) {
                if (place - start < MOST_DIGITS) {
                    number = number * 10 + bytes[place] - '0';
                }
                place++;
            }
            kind = place - start > MOST_DIGITS ? WRONG : NUMBER;
        }

        private void takeSign() {
            // A byte above 127 is below 0 here, and no sign either.
            int b = bytes[place];
            kind = b > 0 && SIGNS.indexOf((char) b) >= 0 ? b : WRONG;
            place++;
        }

        private static boolean isBlank(byte b) {
            return b == 32 || b == 10;
        }

        private static boolean isLetter(byte b) {
            return b >= 'a' && b <= 'z';
        }

        private static boolean isDigit(byte b) {
            return b >= '0' && b <= '9';
        }
    }

    /**
     * Reads THE TAPE into code for the reckoner, operands ahead of what joins them: a number
     * stands for itself, a NAME or an operation for its TOKEN's kind, taken below 0.
     */
    private static final class Reader {
        private static final int MOST_OPEN = 5;
        /** A - ahead of a ONE; no TOKEN has this kind. */
        private static final int NEGATE = 3;

        private final Tokens tokens;
        private final int[] code = new int[TAPE];
        private final int[] ends = new int[PARTS];
        private int used;
        private int open;
        private int fault;

        Reader(Tokens tokens) {
            this.tokens = tokens;
        }

        /** The place of the FAULT; NONE: there is none. */
        int read() {
            used = 0;
            open = 0;
            fault = NONE;
            tokens.first();
            readPart(Tokens.KEY_PART, PART);
            readPart(Tokens.KEY_FOOD, FOOD);
            readPart(Tokens.KEY_LOAN, LOAN_PART);
            if (tokens.kind != Tokens.AT_END) {
                fail();
            }
            return fault;
        }

        private void readPart(int key, int part) {
            require(key);
            readOr();
            require(';');
            ends[part] = used;
        }

        private void readOr() {
            readAnd();
            for (int i = 0; i < TAPE && tokens.kind == Tokens.KEY_OR; i++) {
                tokens.next();
                readAnd();
                emit(-Tokens.KEY_OR);
            }
        }

        private void readAnd() {
            readNot();
            for (int i = 0; i < TAPE && tokens.kind == Tokens.KEY_AND; i++) {
                tokens.next();
                readNot();
                emit(-Tokens.KEY_AND);
            }
        }

        private void readNot() {
            if (tokens.kind != Tokens.KEY_NOT) {
                readComparison();
            } else if (enter()) {
                readNot();
                emit(-Tokens.KEY_NOT);
                open--;
            }
        }

        private void readComparison() {
            readSum();
            int sign = tokens.kind;
            if (sign == '<' || sign == '=') {
                tokens.next();
                readSum();
                emit(-sign);
            }
        }

        private void readSum() {
            readTerm();
            for (int i = 0; i < TAPE && (tokens.kind == '+' || tokens.kind == '-'); i++) {
                int sign = tokens.kind;
                tokens.next();
                readTerm();
                emit(-sign);
            }
        }

        private void readTerm() {
            readOne();
            for (int i = 0; i < TAPE && tokens.kind == '*'; i++) {
                tokens.next();
                readOne();
                emit(-'*');
            }
        }

        private void readOne() {
            int kind = tokens.kind;
            if (kind == Tokens.NUMBER) {
                emit(tokens.number);
                tokens.next();
            } else if (within(kind, Tokens.GAIN, Tokens.MONTH)) {
                emit(-kind);
                tokens.next();
            } else if (kind == '-') {
                readNegated();
            } else if (kind == '(') {
                readBracket();
            } else {
                fail();
            }
        }

        private void readNegated() {
            if (enter()) {
                readOne();
                emit(-NEGATE);
                open--;
            }
        }

        private void readBracket() {
            if (enter()) {
                readOr();
                require(')');
                open--;
            }
        }

        private boolean enter() {
            if (open >= MOST_OPEN) {
                fail();
                return false;
            }
            open++;
            tokens.next();
            return true;
        }

        private void require(int kind) {
            if (tokens.kind == kind) {
                tokens.next();
            } else {
                fail();
            }
        }

        /** The first FAULT counts; behind it no TOKEN fits any more, so that all reading ends. */
        private void fail() {
            if (fault == NONE) {
                fault = tokens.start;
            }
            tokens.kind = Tokens.WRONG;
        }

        private void emit(int item) {
            if (used < TAPE) {
                code[used] = item;
                used++;
            }
        }
    }

    /** A TEXT's code, and of each of its parts where that ends. */
    private static final class Text {
        private int[] code = new int[0];
        private final int[] ends = new int[PARTS];

        void keep(Reader read) {
            code = Arrays.copyOf(read.code, read.used);
            System.arraycopy(read.ends, 0, ends, 0, PARTS);
        }

        int firstOf(int part) {
            return part == 0 ? 0 : ends[part - 1];
        }
    }

    /** Reckons what a part of a TEXT comes to with the NAMES' values. */
    private static final class Reckoner {
        private static final int NAMES = 6;

        private final int[] values = new int[NAMES];
        private final int[] stack = new int[TAPE];
        private int top;

        void setVoyage(int gain, int days, int men, int month) {
            values[Tokens.GAIN - Tokens.GAIN] = gain;
            values[Tokens.DAYS - Tokens.GAIN] = days;
            values[Tokens.MEN - Tokens.GAIN] = men;
            values[Tokens.MONTH - Tokens.GAIN] = month;
        }

        void setOwn(int parts, int owed) {
            values[Tokens.PARTS_NAME - Tokens.GAIN] = parts;
            values[Tokens.OWED - Tokens.GAIN] = owed;
        }

        int reckon(Text text, int part) {
            top = 0;
            for (int i = text.firstOf(part); i < text.ends[part]; i++) {
                step(text.code[i]);
            }
            return pop();
        }

        private void step(int item) {
            int kind = -item;
            if (item >= 0) {
                push(item);
            } else if (within(kind, Tokens.GAIN, Tokens.MONTH)) {
                push(values[kind - Tokens.GAIN]);
            } else if (kind == Tokens.KEY_NOT) {
                push(pop() == 0 ? 1 : 0);
            } else if (kind == Reader.NEGATE) {
                push(-pop());
            } else {
                int right = pop();
                int left = pop();
                push(join(kind, left, right));
            }
        }

        private static int join(int kind, int left, int right) {
            switch (kind) {
                case Tokens.KEY_OR: return left != 0 || right != 0 ? 1 : 0;
                case Tokens.KEY_AND: return left != 0 && right != 0 ? 1 : 0;
                case '<': return left < right ? 1 : 0;
                case '=': return left == right ? 1 : 0;
                case '+': return left + right;
                case '-': return left - right;
                default: return left * right;
            }
        }

        private void push(int value) {
            if (top < stack.length) {
                stack[top] = value;
                top++;
            }
        }

        private int pop() {
            if (top <= 0) {
                return 0;
            }
            top--;
            return stack[top];
        }
    }

    /** Finds THE ORDER. */
    private static final class Planner {
        private final Sea sea;
        private final News news = new News();
        private final int[] goods = new int[MOST_LEGS];
        private final int[] stops = new int[MOST_LEGS];
        private int port;
        private int day;
        private int coins;
        private int hold;
        private int last;
        private int worth;
        private int legs;
        private int comes;

        Planner(Sea sea) {
            this.sea = sea;
        }

        /** Takes the WORDS of a DHOW in a PORT, with those of the PORT, and sells by them what is aboard. */
        void learn(Dhow d, int today, int lastDay) {
            port = d.port;
            day = today;
            hold = d.hold;
            last = lastDay;
            news.forget();
            news.hear(d.news);
            news.hear(sea.ports[port].news);
            coins = d.purse;
            for (int good = 0; good < GOODS; good++) {
                coins += d.goods[good] * news.priceOf(port, good);
            }
        }

        /** Finds the WORTH and the legs of the ORDER of 1 to n legs; 0 legs: there is none. */
        void find(int n) {
            worth = NONE;
            legs = 0;
            for (int k = 1; k <= n; k++) {
                int most = most(port, day, coins, k);
                if (most > worth) {
                    worth = most;
                    legs = k;
                }
            }
        }

        /**
         * The greatest WORTH by just so many legs; NONE: there are none. More COINS at a PORT never
         * bring less (what loses is not bought), so the best GOOD of each leg by itself is best.
         */
        private int most(int from, int leaves, int purse, int legsLeft) {
            if (legsLeft <= 0) {
                return purse;
            }
            int most = NONE;
            for (int to = 0; to < sea.size; to++) {
                int then = arrival(from, to, leaves);
                if (then != NONE) {
                    most = Math.max(most, most(to, then, mostByOneLeg(from, to, purse), legsLeft - 1));
                }
            }
            return most;
        }

        private int mostByOneLeg(int from, int to, int purse) {
            int most = purse;
            for (int good = 0; good < GOODS; good++) {
                most = Math.max(most, coinsAfter(from, to, good, purse));
            }
            return most;
        }

        /** Takes leg by leg the least choice behind which the WORTH can still be had. */
        void trace() {
            int from = port;
            int purse = coins;
            comes = day;
            for (int i = 0; i < legs && i < MOST_LEGS; i++) {
                choose(i, from, purse);
                purse = coinsAfter(from, stops[i], goods[i], purse);
                comes = arrival(from, stops[i], comes);
                from = stops[i];
            }
        }

        private void choose(int i, int from, int purse) {
            for (int good = 0; good <= GOODS; good++) {
                for (int to = 0; to < sea.size; to++) {
                    int then = arrival(from, to, comes);
                    if (then != NONE && most(to, then, coinsAfter(from, to, good, purse), legs - 1 - i) == worth) {
                        goods[i] = good;
                        stops[i] = to;
                        return;
                    }
                }
            }
        }

        /** The day on which a leg's end would be reached; NONE: it can't be in the ORDER. */
        private int arrival(int from, int to, int leaves) {
            if (from == to || !news.knows(to)) {
                return NONE;
            }
            int crossing = sea.crossing(from, to, leaves);
            return crossing == NONE || leaves + crossing > last ? NONE : leaves + crossing;
        }

        /** COINS behind a leg with as many of a GOOD as can be (GOODS: with none). */
        private int coinsAfter(int from, int to, int good, int purse) {
            if (good >= GOODS) {
                return purse;
            }
            int cost = news.priceOf(from, good) + 1;
            if (cost <= 0) {
                return purse;
            }
            return purse + Math.min(hold, purse / cost) * (news.priceOf(to, good) - cost);
        }
    }
}
