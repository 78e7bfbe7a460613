import java.util.ArrayList;
import java.util.List;
import java.util.regex.Matcher;
import java.util.regex.Pattern;

/** A TEXT as the document tells it: all TOKENS first, then a tree of what its E's come to. */
final class PlainText {
    private static final Pattern TOKEN = Pattern.compile("[a-z]+|[0-9]+|(?s:.)");
    private static final List<String> NAMES = List.of("gain", "days", "men", "parts", "owed", "month");
    private static final List<String> KEYS = List.of("part", "food", "loan");
    private static final String END = "";

    /** What can't stand there, and where. */
    static final class Fault extends RuntimeException {
        private static final long serialVersionUID = 1;
        final int place;

        Fault(int place) {
            super(null, null, false, false);
            this.place = place;
        }
    }

    /** An E, by the values of NAMES. */
    interface Part {
        int with(int[] values);
    }

    private final List<String> tokens = new ArrayList<>();
    private final List<Integer> places = new ArrayList<>();
    private final List<Part> parts = new ArrayList<>();
    private int at = 0;
    private int open = 0;

    PlainText(String tape) {
        Matcher m = TOKEN.matcher(tape);
        while (m.find()) {
            if (!m.group().equals(" ") && !m.group().equals("\n")) {
                tokens.add(m.group());
                places.add(m.start());
            }
        }
        tokens.add(END);
        places.add(tape.length());
        for (String key : KEYS) {
            take(key);
            parts.add(or());
            take(";");
        }
        take(END);
    }

    int says(int part, int gain, int days, int men, int ownParts, int owed, int month) {
        return parts.get(part).with(new int[] {gain, days, men, ownParts, owed, month});
    }

    private boolean next(String... some) {
        return List.of(some).contains(tokens.get(at));
    }

    private Fault fault() {
        return new Fault(places.get(at));
    }

    private String take() {
        at++;
        return tokens.get(at - 1);
    }

    private void take(String token) {
        if (!next(token)) {
            throw fault();
        }
        if (!token.equals(END)) {
            at++;
        }
    }

    private void open() {
        if (open == 5) {
            throw fault();
        }
        open++;
        at++;
    }

    private static int truth(boolean is) {
        return is ? 1 : 0;
    }

    private Part or() {
        List<Part> some = new ArrayList<>(List.of(and()));
        while (next("or")) {
            take();
            some.add(and());
        }
        return some.size() == 1 ? some.get(0) : v -> truth(some.stream().anyMatch(p -> p.with(v) != 0));
    }

    private Part and() {
        List<Part> some = new ArrayList<>(List.of(not()));
        while (next("and")) {
            take();
            some.add(not());
        }
        return some.size() == 1 ? some.get(0) : v -> truth(some.stream().allMatch(p -> p.with(v) != 0));
    }

    private Part not() {
        if (next("not")) {
            open();
            Part of = not();
            open--;
            return v -> truth(of.with(v) == 0);
        }
        Part left = sum();
        if (!next("<", "=")) {
            return left;
        }
        boolean less = take().equals("<");
        Part right = sum();
        return v -> truth(less ? left.with(v) < right.with(v) : left.with(v) == right.with(v));
    }

    private Part sum() {
        Part sum = term();
        while (next("+", "-")) {
            int sign = take().equals("+") ? 1 : -1;
            Part left = sum;
            Part right = term();
            sum = v -> left.with(v) + sign * right.with(v);
        }
        return sum;
    }

    private Part term() {
        Part term = one();
        while (next("*")) {
            take();
            Part left = term;
            Part right = one();
            term = v -> left.with(v) * right.with(v);
        }
        return term;
    }

    private Part one() {
        if (next("-")) {
            open();
            Part of = one();
            open--;
            return v -> -of.with(v);
        }
        if (next("(")) {
            open();
            Part of = or();
            take(")");
            open--;
            return of;
        }
        int name = NAMES.indexOf(tokens.get(at));
        if (name >= 0) {
            at++;
            return v -> v[name];
        }
        if (!tokens.get(at).matches("[0-9]{1,4}")) {
            throw fault();
        }
        int number = Integer.parseInt(take());
        return v -> number;
    }
}
