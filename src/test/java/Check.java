/** What the tests share: counts wrong answers, and ends with exit code 1 if there was one. */
final class Check {
    private final String name;
    private int asked = 0;
    private int wrong = 0;

    Check(String name) {
        this.name = name;
    }

    void due(String call, long got, long want) {
        asked++;
        if (got != want) {
            wrong++;
            System.out.println(name + ": " + call + " answered " + got + ", due is " + want);
        }
    }

    void holds(String what, boolean held) {
        due(what, held ? 1 : 0, 1);
    }

    void finish() {
        System.out.println(name + ": " + asked + " answers, " + wrong + " not as due");
        if (wrong != 0 || asked == 0) {
            System.exit(1);
        }
    }

    /** Feeds a text's bytes by eights, and answers what the last feed did. */
    static int feed(MonsoonTrade x, String text) {
        int size = x.count(4);
        for (int from = 0; from < text.length(); from += 8) {
            int n = Math.min(8, text.length() - from);
            long bytes = 0;
            for (int i = n - 1; i >= 0; i--) {
                bytes = bytes << 8 | text.charAt(from + i) & 255;
            }
            size = x.feed(n, bytes);
        }
        return size;
    }

    static int text(MonsoonTrade x, String text) {
        feed(x, text);
        return x.text();
    }

    /** All that the calls that only tell can tell, as one text. */
    static String all(MonsoonTrade x) {
        StringBuilder s = new StringBuilder();
        for (int i = 0; i < 9; i++) {
            s.append(x.count(i)).append(' ');
        }
        for (int p = 0; p < 6; p++) {
            for (int g = 0; g < 4; g++) {
                s.append(x.price(p, g)).append(' ');
            }
            for (int month = 0; month < 12; month++) {
                s.append(x.way(p, 0, month * 30)).append(' ').append(x.way(0, p, month * 30)).append(' ');
            }
            for (int n = 0; n < 6; n++) {
                for (int what = -1; what < 4; what++) {
                    s.append(x.heard(0, n, p, what)).append(' ').append(x.heard(1, n, p, what)).append(' ');
                }
            }
        }
        for (int d = 0; d < 4; d++) {
            for (int what = 0; what < 7; what++) {
                s.append(x.told(d, what)).append(' ').append(x.good(d, what)).append(' ');
            }
        }
        for (int v = 0; v < 16; v++) {
            for (int what = 0; what < 7; what++) {
                s.append(x.ventureTold(v, what)).append(' ');
            }
        }
        for (int t = 0; t < 6; t++) {
            for (int part = 0; part < 3; part++) {
                s.append(x.says(t, part, 77, 5, 3, 2, 41)).append(' ');
            }
        }
        return s.toString();
    }
}
