/**
 * What can be learnt of an object, by aspects: two objects of like tales are alike. An aspect may change
 * the object (to bring out what no call tells), so each is asked of a new one; that also keeps to the 512 calls.
 */
final class Tale {
    static final int ASPECTS = 7;

    private final MonsoonTrade x;
    private final StringBuilder told = new StringBuilder();

    private Tale(MonsoonTrade x) {
        this.x = x;
    }

    static String of(MonsoonTrade x, int aspect) {
        Tale tale = new Tale(x);
        switch (aspect) {
            case 0: tale.places(); break;
            case 1: tale.landed(); break;
            case 2: tale.news(); break;
            case 3: tale.dhowsAndVentures(); break;
            case 4: tale.voyages(); break;
            case 5: tale.texts(); break;
            default: tale.sheets(); break;
        }
        return tale.told.toString();
    }

    private void say(long answer) {
        told.append(answer).append(' ');
    }

    private void places() {
        for (int what = 0; what < 9; what++) {
            say(x.count(what));
        }
        for (int port = 0; port < x.count(0); port++) {
            for (int good = 0; good < 4; good++) {
                say(x.price(port, good));
            }
            say(x.way(0, port, 120));
            say(x.way(port, 0, 120));
        }
        for (int month = 0; month < 12; month++) {
            say(x.way(0, 1, 30 * month));
            say(x.way(1, 0, 30 * month));
        }
    }

    private void landed() {
        for (int port = 0; port < x.count(0); port++) {
            for (int good = 0; good < 4; good++) {
                say(x.wants(port, good, 99, 9));
            }
        }
    }

    private void news() {
        int ports = x.count(0);
        int dhows = x.count(1);
        for (int port = 0; port < ports; port++) {
            for (int n = 0; n < dhows + ports; n++) {
                int who = n < dhows ? 0 : 1;
                int whose = n < dhows ? n : n - dhows;
                int day = x.heard(who, whose, port, -1);
                say(day);
                for (int good = 0; good < 4 && day >= 0; good++) {
                    say(x.heard(who, whose, port, good));
                }
            }
        }
    }

    private void dhowsAndVentures() {
        for (int dhow = 0; dhow < x.count(1); dhow++) {
            for (int what = 0; what < 7; what++) {
                say(x.told(dhow, what));
            }
            for (int good = 0; good < 4; good++) {
                say(x.good(dhow, good));
            }
            for (int what = 0; what < 3; what++) {
                say(x.order(dhow, 2, 9999, what));
            }
        }
        for (int venture = 0; venture < x.count(2); venture++) {
            for (int what = 0; what < 7; what++) {
                say(x.ventureTold(venture, what));
            }
        }
    }

    /** When a voyage began is not told; its end hangs on it. */
    private void voyages() {
        for (int dhow = 0; dhow < x.count(1); dhow++) {
            say(x.end(dhow));
        }
        for (int venture = 0; venture < x.count(2); venture++) {
            for (int what = 4; what < 7; what++) {
                say(x.ventureTold(venture, what));
            }
        }
    }

    private void texts() {
        for (int text = 0; text < x.count(3); text++) {
            for (int part = 0; part < 3; part++) {
                say(x.says(text, part, 77, 5, 3, 2, 41));
                say(x.says(text, part, -7, 0, 1, 9, 0));
            }
        }
        int text = x.text();
        say(text);
        for (int part = 0; part < 3; part++) {
            say(x.says(text, part, 1, 1, 1, 1, 1));
        }
    }

    private void sheets() {
        for (int port = x.count(0); port < 2; port++) {
            x.port(12 * port, 0);
        }
        for (int sheet = 0; sheet < 4; sheet++) {
            for (int sort = 0; sort < 3; sort++) {
                int answer = x.winds(sheet, sort, 0, 0);
                say(answer);
                if (answer == 0) {
                    cells(sheet, sort);
                }
            }
        }
    }

    private void cells(int sheet, int sort) {
        for (int i : new int[] {0, 1, 2, 3, 4, 5, 39}) {
            say(x.winds(sheet, sort, i, 1));
            say(x.way(0, 1, 0));
            say(x.way(1, 0, 0));
        }
    }
}
