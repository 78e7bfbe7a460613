import java.util.HashMap;
import java.util.Map;
import java.util.function.Supplier;

/** What the edge tests share: calls that are refused in a scene, with what is due and nothing changed. */
final class Edge {
    static final int NONE = MonsoonTrade.NONE, BAD = MonsoonTrade.BAD, STATE = MonsoonTrade.STATE, FULL = MonsoonTrade.FULL;
    static final int NOTHING = -11, OUTSIDE = -12, OTHER_SORT = -13, SIZE_BELOW_0 = -14;
    static final long NO = MonsoonTrade.NO;

    interface Call {
        long on(MonsoonTrade x);
    }

    interface CallOf {
        long on(MonsoonTrade x, int number);
    }

    private final Check c;
    private final Map<Supplier<MonsoonTrade>, String[]> tales = new HashMap<>();

    Edge(Check c) {
        this.c = c;
    }

    /** The call is answered so, and the object is then as one on which it was not called. */
    void refused(String what, Supplier<MonsoonTrade> scene, long due, Call call) {
        String[] before = tales.computeIfAbsent(scene, Edge::tale);
        for (int aspect = 0; aspect < Tale.ASPECTS; aspect++) {
            MonsoonTrade x = scene.get();
            c.due(what, call.on(x), due);
            c.holds(what + " changes nothing (aspect " + aspect + ")", Tale.of(x, aspect).equals(before[aspect]));
        }
    }

    /** Numbers on both sides of least .. most are refused: the first ones, and the farthest. */
    void outside(String what, Supplier<MonsoonTrade> scene, long due, int least, int most, CallOf call) {
        int[] numbers = {least - 1, most + 1, Integer.MIN_VALUE, Integer.MAX_VALUE};
        for (int number : numbers) {
            refused(what + " " + number, scene, due, x -> call.on(x, number));
        }
    }

    /** The call is answered so in a scene. */
    void due(String what, Supplier<MonsoonTrade> scene, long due, Call call) {
        c.due(what, call.on(scene.get()), due);
    }

    private static String[] tale(Supplier<MonsoonTrade> scene) {
        String[] tale = new String[Tale.ASPECTS];
        for (int aspect = 0; aspect < Tale.ASPECTS; aspect++) {
            tale[aspect] = Tale.of(scene.get(), aspect);
        }
        return tale;
    }
}
