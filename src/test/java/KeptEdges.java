/** Images, asks and counts: part 4, and promises 33 to 40. */
final class KeptEdges {
    private static final String PART = "part 4";

    private KeptEdges() {
    }

    static void all() {
        trace();
        bodies();
        nearest();
        promise33();
        promise34();
        promises35And36();
        promises37And38();
        promise39();
        promise40();
    }

    private static void asked(Run run, int one, int what, int answer, int... trace) {
        run.says("ask(" + one + ", " + what + ") = " + answer);
        for (int i = 0; i < 18; i++) {
            run.says("trace(" + i + ") = " + (i < trace.length ? "" + trace[i] : "NONE"));
        }
    }

    /** No ask leaves more than six numbers, so that sixteen are never filled. */
    private static void trace() {
        Sentences.edge(PART,
                "ASKS of MEN, by BODIES, each of which leaves its number in THE TRACE as it begins (the first 16):");
        asked(Limits.made(Limits.MIXED), 1, 0, -31, 12, 11, 10, 24, 21, 20);
        Run.of(Run.QUEUE).says("trace(0) = NONE", "trace(15) = NONE", "trace(16) = NONE");
    }

    /** Years and trust: 0 and 9, 5 and 12, 4 and 0, 0 and 0, 5 and 1, 1 and 0. */
    private static void bodies() {
        Sentences.edge(PART,
                "0 SIZE: 10 lent to all MEN: YEARS. 11 of THIEVES: what 10 gives, and MARK. 12 of LIFERS: 0 less what 11 gives. "
            + "13 of WRONGED ones: what 10 gives, less 100. 14 of BOYS: what 13 gives, twice.");
        asked(Limits.made(Limits.MIXED), 0, 0, 9, 11, 10, 21, 20);
        asked(Limits.made(Limits.MIXED), 1, 0, -31, 12, 11, 10, 24, 21, 20);
        asked(Limits.made(Limits.MIXED), 3, 0, -100, 13, 10);
        asked(Limits.made(Limits.MIXED), 4, 0, -190, 14, 13, 10);
        asked(Limits.made(Limits.MIXED), 5, 0, 6, 11, 10, 21, 20);
        asked(Run.of("l9,60;j0,1;b0,30;"), 0, 0, -140, 14, 13, 10);
        Sentences.edge(PART,
                "1 MARK: 20 lent to all MEN: the number. 21 of THIEVES: what 20 gives, and TRUST. 22 of SINGERS: what 21 gives, less 1000. "
            + "23 of WRONGED ones: what 20 gives, less SIZE. 24 of LIFERS: what 21 gives, twice.");
        asked(Limits.made(Limits.MIXED), 0, 1, 9, 21, 20);
        asked(Limits.made(Limits.MIXED), 1, 1, 26, 24, 21, 20);
        asked(Limits.made(Limits.MIXED), 2, 1, -998, 22, 21, 20);
        asked(Limits.made(Limits.MIXED), 3, 1, 103, 23, 20, 13, 10);
        asked(Limits.made(Limits.MIXED), 4, 1, 194, 23, 20, 14, 13, 10);
        asked(Run.of("l9,60;j0,1;f0,30;").says("years(10) = 0"), 0, 1, 198, 24, 21, 20);
    }

    private static void nearest() {
        Sentences.edge(PART,
                "(Of an ask the BODY told for the KIND begins, else that of the nearest KIND that it is, too, else the one that is lent; "
            + "SIZE, MARK within others are asked of the same MAN anew.)");
        // a singer has no size of his own, a boy no mark; within a thief's size a singer's mark is asked,
        // within a wronged one's mark a boy's size
        asked(Limits.made(Limits.MIXED), 2, 0, -994, 11, 10, 22, 21, 20);
        asked(Limits.made(Limits.MIXED), 4, 1, 194, 23, 20, 14, 13, 10);
    }

    private static void promise33() {
        Sentences.edge("promise 33", "int image(int k): An IMAGE (0, 1) is kept of the CIRCUIT: 1.");
        Run.of(Run.MANY).says("image(0) = 1", "years(3) = 9", "image(1) = 1", "count(6) = 3", "years(1) = 9",
                "image(0) = 1", "restore(1) = 1", "count(3) = 3", "restore(0) = 1", "count(3) = 4");
        Sentences.edge("promise 33", "BAD; STATE: no CIRCUIT.");
        Limits.of(33);
        Run.fresh().says("image(0) = STATE", "image(1) = STATE", "image(2) = BAD", "image(-1) = BAD",
                "restore(0) = STATE").fed("l").says("circuit() = -1000101", "image(0) = STATE");
    }

    private static void promise34() {
        Sentences.edge("promise 34",
                "int restore(int k): The CIRCUIT is as an IMAGE kept it (no ACT can be undone then): 1.");
        Limits.made(Limits.MIXED).says("count(6) = 5", "restore(1) = 1", "count(6) = 0", "undo() = STATE",
                "judge(0, 1) = 1", "judge(1, 0) = 5", "count(3) = 3", "stand(3) = 1", "stand(2) = 8", "man(4, 2) = 5",
                "count(4) = 22")
            .says("restore(0) = 1", "count(3) = 0", "stand(0) = 63", "judge(1, 0) = 2", "count(4) = 0", "years(3) = 1",
                "restore(0) = 1", "count(3) = 0", "restore(1) = 1", "count(3) = 3");
        // an image of another circuit, with more men and judges
        Run.of(Run.MANY).says("years(3) = 9", "image(1) = 1").fed("l1,1;j0,0;w0,1;").says("circuit() = 1",
                "restore(1) = 1", "count(1) = 6", "count(2) = 3", "stand(4) = 4", "stand(5) = 9", "kind(5) = 1",
                "man(1, 3) = 12");
        Sentences.edge("promise 34", "BAD; STATE: none was kept.");
        Limits.of(34);
        Run.fresh().says("restore(0) = STATE", "restore(1) = STATE", "restore(2) = BAD", "restore(-1) = BAD");
        Run.of(Run.QUEUE).says("image(1) = 1", "years(1) = 0", "restore(0) = STATE", "count(3) = 1", "count(6) = 1",
                "restore(1) = 1", "count(3) = 0");
    }

    private static void promises35And36() {
        Sentences.edge("promise 35", "int kind(int one): The KIND of a MAN, as told (1 to 5). BAD.");
        Limits.of(35);
        Run.of(Run.MANY).says("kind(0) = 1", "kind(1) = 2", "kind(2) = 3", "kind(3) = 4", "kind(4) = 5", "kind(5) = 1",
                "kind(6) = BAD", "kind(-1) = BAD");
        Run.fresh().says("kind(0) = BAD");
        Sentences.edge("promise 36",
                "int as(int one, int kind): A MAN is taken as one of a KIND (0 .. 5): its number.");
        Run.of(Run.MANY).says("as(0, 0) = 0", "as(4, 0) = 4", "as(4, 5) = 4", "as(5, 1) = 5");
        Sentences.edge("promise 36", "BAD; KIND: it is no such one.");
        Limits.of(36);
        Run.of(Run.MANY).says("as(0, 2) = KIND", "status() = 3", "as(0, 5) = KIND", "as(3, 5) = KIND", "as(0, 6) = BAD",
                "as(0, -1) = BAD", "as(6, 0) = BAD", "status() = 3", "as(0, 1) = 0", "status() = 0");
        Run.fresh().says("as(0, 0) = BAD", "as(0, 6) = BAD");
    }

    private static void promises37And38() {
        Sentences.edge("promise 37", "int ask(int one, int what): An ASK (0, 1) of a MAN. BAD.");
        Limits.of(37);
        Run.fresh().says("ask(0, 0) = BAD");
        Sentences.edge("promise 37", "THE TRACE is empty ahead of it.");
        Run run = Limits.made(Limits.MIXED).says("ask(1, 0) = -31");
        asked(run, 3, 0, -100, 13, 10);
        run.says("ask(6, 0) = BAD", "ask(0, 2) = BAD", "trace(0) = 13", "trace(1) = 10");
        Sentences.edge("promise 38", "int trace(int i): Number i of THE TRACE; NONE.");
        Run.fresh().says("trace(0) = NONE", "trace(-1) = NONE", "trace(MIN) = NONE", "trace(MAX) = NONE");
        Limits.made(Limits.MIXED).says("ask(1, 0) = -31", "trace(0) = 12", "trace(5) = 20", "trace(6) = NONE",
                "trace(15) = NONE", "trace(16) = NONE", "trace(-1) = NONE", "trace(MIN) = NONE", "trace(MAX) = NONE")
            .says("years(1) = 1", "undo() = 5", "circuit() = -1000103", "trace(5) = 20");
    }

    private static void promise39() {
        Sentences.edge("promise 39",
                "int count(int what): How many: 0 ROWS, 1 MEN, 2 JUDGES, 3 YEAR, 4 TRUST of all together, 5 how many WAIT, 6 ACTS that can be undone, "
            + "7 bytes on the tape.");
        Run none = Run.fresh();
        for (int what = 0; what <= 7; what++) {
            none.says("count(" + what + ") = 0");
        }
        Limits.made(Limits.MIXED).says("count(0) = 4", "count(1) = 6", "count(2) = 3", "count(3) = 3", "count(4) = 22",
                "count(5) = 2", "count(6) = 5", "count(7) = 3");
        Run most = Run.of("l9,60;j9,1;j0,1;j0,1;j0,1;w0,30;f1,1;f2,1;f3,1;f3,1;f3,1;").says("count(5) = 6",
                "count(1) = 6", "count(2) = 4");
        for (int row = 0; row < 8; row++) {
            most.says("row(" + row + ", 0, 0) = 0", "count(0) = " + (row + 1));
        }
        most.says("years(24) = 0", "count(4) = 396", "count(5) = 2", "count(6) = 24");
        for (int i = 1; i <= 120; i++) {
            most.does("feed(" + i + ")");
        }
        most.says("count(7) = 120", "feed(1) = FULL", "count(7) = 120");
        Limits.made(Limits.OUT).says("count(5) = 0", "count(4) = 0");
        Sentences.edge("promise 39", "BAD.");
        Limits.of(39);
        none.says("count(-1) = BAD", "count(8) = BAD", "count(MIN) = BAD", "count(MAX) = BAD");
    }

    private static void promise40() {
        Sentences.edge("promise 40",
                "int status(): Of the latest call with a ROW, or as(), that was not BAD, STATE, FULL: the number of its FINDING;");
        Run run = Limits.made(Limits.MIXED).says("set(6, 0, 1) = NULL", "status() = 1");
        // each of these is refused, or is no call with a row
        run.says("row(8, 0, 1) = BAD", "row(0, 0, 41) = BAD", "set(8, 0, 1) = BAD", "copy(8, 0, 0, 0, 1) = BAD",
                "drop(8) = BAD", "who(0, 0, 0, 0, 13) = BAD", "severes(0, 0, 0, 0, 13) = BAD",
                "likes(0, 0, 0, 0, 13) = BAD", "as(0, 6) = BAD")
            .says("status() = 1", "send(0, 0) = STATE", "years(25) = BAD", "years(1) = 1", "undo() = 5",
                "ask(0, 0) = 9", "kind(0) = 1", "count(0) = 4", "circuit() = -1000103", "image(0) = 1", "status() = 1");
        for (String row : new String[] {"set(4, 0, 1) = PLACE 2", "row(0, 0, -1) = SIZE 4",
                "copy(0, 0, 5, 0, 1) = STORE 5", "as(0, 4) = KIND 3", "who(0, 0, 6, 0, 1) = NULL 1",
                "who(0, 0, 0, 12, 1) = PLACE 2",
            "severes(0, 0, 6, 0, 1) = NULL 1", "severes(0, 0, 0, 12, 1) = PLACE 2", "likes(0, 0, 6, 0, 1) = NULL 1",
                    "likes(0, 0, 0, 12, 1) = PLACE 2", "drop(6) = NULL 1", "copy(0, 13, 7, 0, 0) = PLACE 2"}) {
            int at = row.lastIndexOf(' ');
            run.says(row.substring(0, at), "status() =" + row.substring(at));
        }
        Sentences.edge("promise 40", "0: it had none, or there was none.");
        Run.fresh().says("status() = 0", "row(9, 0, 0) = BAD", "status() = 0", "feed(1) = 1", "status() = 0");
        for (String call : new String[] {"row(1, 0, 0)", "set(0, 0, 1)", "copy(0, 0, 7, 0, 12)", "drop(7)",
                "who(0, 0, 0, 0, 1)", "who(0, 1, 0, 0, 1)", "who(0, 2, 0, 0, 1)", "severes(0, 0, 0, 0, 1)",
                "likes(0, 0, 0, 0, 1)",
            "likes(0, 1, 0, 0, 1)", "as(0, 1)"}) {
            Limits.made(Limits.MIXED).says("drop(6) = NULL", "status() = 1").does(call).says("status() = 0");
        }
    }
}
