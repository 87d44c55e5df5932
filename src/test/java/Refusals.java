import java.util.ArrayList;
import java.util.List;

/** What is refused, or found, changes nothing but status(): held against a twin to whom it did not happen. */
final class Refusals {
    private Refusals() {
    }

    static void all() {
        for (Limits limit : Limits.all()) {
            for (String row : limit.beyond()) {
                hold(limit.state, row);
            }
        }
        for (String row : OF_NEW) {
            hold("new", row);
        }
        for (String row : OF_MIXED) {
            hold(Limits.MIXED, row);
        }
        for (String row : OF_LATE) {
            hold("late", row);
        }
        faultsLeaveAll();
    }

    private static final String[] OF_NEW = {
        "set(0, 0, 1) = NULL", "copy(0, 0, 1, 0, 1) = NULL", "drop(0) = NULL", "undo() = STATE", "years(1) = STATE",
        "send(0, 0) = BAD", "sentence(0, 1) = BAD", "gate(0, 0) = BAD", "severe(0, 0) = BAD", "retry(0, 0, 1) = BAD",
        "stand(0) = STATE", "sending(1, -1) = STATE", "gates(1, 0) = STATE", "let(1, 0) = STATE",
        "drawn(0, 1, 0) = STATE", "image(0) = STATE", "restore(0) = STATE", "as(0, 0) = BAD", "ask(0, 0) = BAD"
    };

    private static final String[] OF_MIXED = {
        "send(0, 1) = STATE", "send(1, 0) = STATE", "send(3, 0) = STATE", "sentence(0, 5) = STATE",
        "sentence(3, 5) = STATE", "retry(0, 1, 5) = STATE", "retry(1, 0, 5) = STATE", "retry(2, 1, 5) = STATE",
        "set(6, 0, 1) = NULL", "drop(6) = NULL", "copy(6, 0, 0, 0, 1) = NULL", "copy(0, 0, 6, 0, 1) = NULL",
        "copy(0, 0, 5, 0, 1) = STORE", "copy(5, 1, 0, 0, 1) = STORE", "copy(0, 1, 7, 0, 12) = PLACE",
        "copy(0, 0, 7, 1, 12) = PLACE", "set(4, 0, 1) = PLACE", "who(0, 0, 6, 0, 1) = NULL",
        "who(0, 0, 0, 1, 12) = PLACE", "severes(0, 0, 6, 0, 1) = NULL", "severes(0, 0, 0, 1, 12) = PLACE",
        "likes(0, 0, 6, 0, 1) = NULL", "likes(0, 0, 0, 1, 12) = PLACE", "as(0, 2) = KIND", "as(0, 5) = KIND",
        "byTurns(1, 1, 1, 1) = BAD"
    };

    private static final String[] OF_LATE = {"years(10) = FULL", "years(24) = FULL", "feed(59) = FULL"};

    private static Run made(String state) {
        if (state.equals("new")) {
            return Run.fresh();
        }
        if (!state.equals("late")) {
            return Limits.made(state);
        }
        Run run = Run.of(Run.QUEUE);
        for (int i = 0; i < 41; i++) {
            run.does("years(24)");
        }
        run.does("years(6)", "image(1)");
        for (int i = 0; i < 120; i++) {
            run.does("feed(108)");
        }
        return run;
    }

    private static void hold(String state, String row) {
        Run run = made(state);
        Run twin = made(state);
        run.says(row);
        long answer = Run.number(row.substring(row.lastIndexOf('=') + 1));
        long due = answer <= -1000011 ? -1000010 - answer : twin.answer("status()");
        Check.due("status() behind " + row, run.answer("status()"), due);
        same(row, run, twin);
    }

    /** A text that has a fault leaves all but the tape and fault(): here there was a fault alike ahead of it. */
    private static void faultsLeaveAll() {
        for (String text : new String[] {"", "l", "l1,1;j0,0;t0,1;x", "l1,1;j3,1;", "l9,9;j1,1;t0,4;123"}) {
            Run run = Limits.made(Limits.MIXED);
            Run twin = Limits.made(Limits.MIXED);
            run.answer("circuit()");
            twin.answer("circuit()");
            run.fed(text);
            Check.holds("a fault in " + text, run.answer("circuit()") <= -1000100);
            Check.due("fault() of " + text, run.answer("fault()"), 1);
            Check.due("status() behind " + text, run.answer("status()"), twin.answer("status()"));
            same("circuit() of " + text, run, twin);
        }
    }

    /** Each is asked all that can be asked, then brought back act by act, then to its images. */
    private static void same(String what, Run run, Run twin) {
        List<String> calls = new ArrayList<>(seen());
        for (int i = 0; i < 25; i++) {
            calls.add("undo()");
            calls.addAll(List.of("count(3)", "count(4)", "stand(1)", "judge(0, 0)"));
        }
        for (int k = 0; k < 2; k++) {
            calls.add("restore(" + k + ")");
            calls.addAll(List.of("count(3)", "count(4)", "stand(0)", "judge(1, 0)", "judge(0, 1)", "count(6)"));
        }
        calls.addAll(List.of("feed(49)", "circuit()", "fault()"));
        for (int row = 0; row < 8; row++) {
            calls.add("drop(" + row + ")");
        }
        for (String call : calls) {
            Check.due(call + " behind " + what, run.answer(call), twin.answer(call));
        }
    }

    private static List<String> seen() {
        List<String> calls = new ArrayList<>(List.of("fault()"));
        for (int what = 0; what < 8; what++) {
            calls.add("count(" + what + ")");
            calls.add("stand(" + what + ")");
            calls.add("trace(" + what + ")");
        }
        for (int man = 0; man < 6; man++) {
            for (int what = 0; what < 5; what++) {
                calls.add("man(" + man + ", " + what + ")");
            }
            calls.add("kind(" + man + ")");
        }
        for (int judge = 0; judge < 3; judge++) {
            for (int what = 0; what < 4; what++) {
                calls.add("judge(" + judge + ", " + what + ")");
            }
        }
        // man 3 is out, so that the least trust that fits to one item is that item
        for (int place = 0; place < 12; place++) {
            calls.add("who(3, 2, 0, " + place + ", 1)");
            calls.add("who(3, 2, 7, " + place + ", 1)");
            calls.add("who(3, 2, 5, " + place + ", 1)");
        }
        return calls;
    }
}
