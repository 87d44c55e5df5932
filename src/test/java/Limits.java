import java.util.ArrayList;
import java.util.List;

/** Each number that a call takes, with the least and the most it may be, and what is answered beyond. */
final class Limits {
    /** All wait. */
    static final String FRESH = "fresh";
    /** One settled, a lifer and a boy beside, two who wait, one out; rows, images, a trace, a tape begun. */
    static final String MIXED = "mixed";
    /** All six are out. */
    static final String OUT = "out";

    private static final String TEXT_MIXED = "l4,9;j6,1;j2,0;j9,0;t0,3;f1,5;s0,4;w2,2;b2,6;t1,1;";
    private static final String TEXT_OUT = "l1,60;j9,0;j9,0;j9,0;w0,1;w0,1;w1,1;w1,1;w2,1;w2,1;";

    final int promise;
    final String state, call, below, above;
    final int least, most;

    private Limits(int promise, String state, String call, int least, int most, String below, String above) {
        this.promise = promise;
        this.state = state;
        this.call = call;
        this.least = least;
        this.most = most;
        this.below = below;
        this.above = above;
    }

    private static final List<Limits> ALL = new ArrayList<>();

    private static void add(int promise, String state, String call, int least, int most, String... beyond) {
        String below = beyond.length > 0 ? beyond[0] : "BAD";
        String above = beyond.length > 1 ? beyond[1] : below;
        ALL.add(new Limits(promise, state, call, least, most, below, above));
    }

    static {
        add(2, MIXED, "row(#, 0, 1)", 0, 7);
        add(2, MIXED, "row(0, #, 1)", 0, 2);
        add(2, MIXED, "row(0, 0, #)", 0, 40, "SIZE", "BAD");
        add(3, MIXED, "set(#, 0, 1)", 0, 7);
        add(3, MIXED, "set(0, #, 1)", 0, 11, "PLACE");
        add(4, MIXED, "copy(#, 0, 7, 0, 1)", 0, 7);
        add(4, MIXED, "copy(0, 0, #, 0, 1)", 0, 7);
        add(4, MIXED, "copy(0, #, 7, 0, 1)", 0, 11, "PLACE");
        add(4, MIXED, "copy(0, 0, 7, #, 1)", 0, 11, "PLACE");
        add(4, MIXED, "copy(0, 0, 7, 0, #)", 0, 12, "PLACE");
        add(4, MIXED, "copy(0, #, 7, 0, 0)", 0, 12, "PLACE");
        add(4, MIXED, "copy(0, 0, 7, #, 0)", 0, 12, "PLACE");
        add(5, MIXED, "drop(#)", 0, 7);
        add(6, MIXED, "feed(#)", 0, 255);
        add(10, MIXED, "years(#)", 1, 24);
        add(11, FRESH, "send(#, 1)", 0, 5);
        add(11, FRESH, "send(0, #)", 0, 2);
        add(12, FRESH, "sentence(#, 9)", 0, 5);
        add(12, FRESH, "sentence(0, #)", 1, 30);
        add(12, MIXED, "sentence(1, #)", 1, 30);
        add(13, MIXED, "gate(#, 1)", 0, 2);
        add(13, MIXED, "gate(0, #)", 0, 1);
        add(14, MIXED, "severe(#, 1)", 0, 2);
        add(14, MIXED, "severe(0, #)", 0, 9);
        add(15, OUT, "retry(#, 0, 1)", 0, 5);
        add(15, OUT, "retry(0, #, 1)", 0, 2);
        add(15, OUT, "retry(0, 0, #)", 1, 30);
        add(16, MIXED, "man(#, 0)", 0, 5);
        add(16, MIXED, "man(0, #)", 0, 4);
        add(17, MIXED, "judge(#, 0)", 0, 2);
        add(17, MIXED, "judge(0, #)", 0, 3);
        add(18, MIXED, "stand(#)", 0, 5);
        add(19, MIXED, "ahead(#, 1, 0)", 0, 5);
        add(19, MIXED, "ahead(0, #, 0)", 0, 60);
        add(19, MIXED, "ahead(0, 1, #)", 0, 2);
        add(20, MIXED, "by(#, 1)", 0, 2);
        add(20, MIXED, "by(0, #)", 0, 60);
        add(21, MIXED, "when(#, 1)", 0, 5);
        add(21, MIXED, "when(0, #)", 1, 3);
        add(22, MIXED, "sending(#, 0)", 1, 30);
        add(22, MIXED, "sending(1, #)", -1, 5);
        add(23, MIXED, "gates(#, 0)", 1, 30);
        add(23, MIXED, "gates(1, #)", 0, 1);
        add(24, MIXED, "let(#, 0)", 1, 30);
        add(24, MIXED, "let(1, #)", 0, 1);
        add(25, MIXED, "closest(#, 0)", 0, 2);
        add(25, MIXED, "closest(0, #)", 0, 1);
        add(26, MIXED, "share(#, 9)", 0, 5);
        add(26, MIXED, "share(0, #)", 0, 999);
        add(27, MIXED, "byTurns(#, 1, 1, 1)", 0, 2);
        add(27, MIXED, "byTurns(1, #, 1, 1)", 0, 2);
        add(27, MIXED, "byTurns(0, 1, #, 1)", 0, 4);
        add(27, MIXED, "byTurns(0, 1, 1, #)", 1, 20);
        add(28, MIXED, "who(#, 0, 0, 0, 1)", 0, 5);
        add(28, MIXED, "who(0, #, 0, 0, 1)", 0, 2);
        add(28, MIXED, "who(0, 0, #, 0, 1)", 0, 7);
        add(28, MIXED, "who(0, 0, 0, #, 1)", 0, 11, "PLACE");
        add(28, MIXED, "who(0, 0, 0, 0, #)", 1, 12);
        add(29, MIXED, "severes(#, 0, 0, 0, 1)", 0, 2);
        add(29, MIXED, "severes(0, #, 0, 0, 1)", 0, 5);
        add(29, MIXED, "severes(0, 0, #, 0, 1)", 0, 7);
        add(29, MIXED, "severes(0, 0, 0, #, 1)", 0, 11, "PLACE");
        add(29, MIXED, "severes(0, 0, 0, 0, #)", 1, 12);
        add(30, MIXED, "likes(#, 0, 0, 0, 1)", 0, 5);
        add(30, MIXED, "likes(0, #, 0, 0, 1)", 0, 1);
        add(30, MIXED, "likes(0, 0, #, 0, 1)", 0, 7);
        add(30, MIXED, "likes(0, 0, 0, #, 1)", 0, 11, "PLACE");
        add(30, MIXED, "likes(0, 0, 0, 0, #)", 1, 12);
        add(31, MIXED, "fence(#, 1, 1, 0)", 0, 5);
        add(31, MIXED, "fence(0, #, 1, 0)", 0, 8);
        add(31, MIXED, "fence(0, 1, #, 0)", 0, 10);
        add(31, MIXED, "fence(0, 1, 1, #)", 0, 1);
        add(32, MIXED, "drawn(#, 1, 0)", 0, 60);
        add(32, MIXED, "drawn(1, #, 0)", 1, 999999);
        add(32, MIXED, "drawn(1, 1, #)", 0, 1);
        add(33, MIXED, "image(#)", 0, 1);
        add(34, MIXED, "restore(#)", 0, 1);
        add(35, MIXED, "kind(#)", 0, 5);
        add(36, MIXED, "as(#, 0)", 0, 5);
        add(36, MIXED, "as(4, #)", 0, 5);
        add(37, MIXED, "ask(#, 0)", 0, 5);
        add(37, MIXED, "ask(0, #)", 0, 1);
        add(39, MIXED, "count(#)", 0, 7);
    }

    static List<Limits> all() {
        return ALL;
    }

    static Run made(String state) {
        if (state.equals(FRESH)) {
            return Run.of(TEXT_MIXED);
        }
        if (state.equals(OUT)) {
            return Run.of(TEXT_OUT).says("years(2) = 0", "stand(2) = 63");
        }
        Run run = Run.of(TEXT_MIXED).does("image(0)", "years(3)", "severe(1, 5)", "image(1)", "gate(0, 0)",
                "ask(4, 1)");
        run.told(0, 11, 12, 13, 14, 15, 16, 17, 18, 19, 20, 21, 22).told(7, 31, 32, 33, 34, 35, 36, 37, 38, 39, 40, 41,
                42);
        return run.does("row(5, 1, 12)", "set(5, 1, 51)", "row(4, 2, 0)").says("set(4, 0, 1) = PLACE").fed("l1,");
    }

    private String with(long v) {
        return call.replace("#", Long.toString(v));
    }

    /** The calls beyond both ends, with what they answer. */
    List<String> beyond() {
        return List.of(with(least - 1L) + " = " + below, with(Integer.MIN_VALUE) + " = " + below,
            with(most + 1L) + " = " + above, with(Integer.MAX_VALUE) + " = " + above);
    }

    private void hold() {
        made(state).does(with(least));
        made(state).does(with(most));
        Run run = made(state);
        for (String row : beyond()) {
            run.says(row);
        }
    }

    /** Holds all that the calls of one promise take. */
    static void of(int promise) {
        int there = 0;
        for (Limits limit : ALL) {
            if (limit.promise == promise) {
                limit.hold();
                there++;
            }
        }
        Check.holds("promise " + promise + " has limits", there > 0);
    }
}
