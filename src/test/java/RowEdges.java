/** Rows: the first words of part 1, and promises 1 to 5. */
final class RowEdges {
    private static final String PART = "part 1";

    private RowEdges() {
    }

    static void all() {
        missing();
        lanes();
        items();
        zeroAtFirst();
        promise1();
        promise2();
        promise3();
        promise4();
        promise5();
    }

    private static void missing() {
        Sentences.edge(PART, "ROWS 0 .. 7 are missing (at first),");
        Run run = Run.fresh().says("count(0) = 0");
        for (int row = 0; row < 8; row++) {
            run.says("set(" + row + ", 0, 1) = NULL", "drop(" + row + ") = NULL",
                    "copy(" + row + ", 0, " + row + ", 0, 0) = NULL");
        }
        run.says("set(8, 0, 1) = BAD", "drop(8) = BAD", "set(-1, 0, 1) = BAD", "drop(-1) = BAD");
        for (int row = 0; row < 8; row++) {
            run.says("row(" + row + ", 0, 1) = 1", "count(0) = " + (row + 1));
        }
    }

    private static void lanes() {
        Sentences.edge(PART, "or have a LANE (0 bytes, 1 shorts, 2 ints)");
        Run.fresh().says("row(0, 0, 1) = 1", "set(0, 0, 128) = -128", "row(0, 1, 1) = 1", "set(0, 0, 128) = 128",
                "set(0, 0, 32768) = -32768")
            .says("row(0, 2, 1) = 1", "set(0, 0, 32768) = 32768", "set(0, 0, MAX) = MAX", "row(0, 3, 1) = BAD",
                "row(0, -1, 1) = BAD")
            .says("set(0, 0, 70000) = 70000");
    }

    private static void items() {
        Sentences.edge(PART, "and 0 to 40 ITEMS,");
        Run.fresh().says("row(0, 2, 0) = 0", "set(0, 0, 1) = PLACE", "copy(0, 0, 0, 0, 0) = 0", "drop(0) = 0")
            .says("row(0, 2, 1) = 1", "set(0, 0, 1) = 1", "set(0, 1, 1) = PLACE", "drop(0) = 1")
            .says("row(0, 2, 40) = 40", "set(0, 39, 1) = 1", "set(0, 40, 1) = PLACE", "row(0, 2, 41) = BAD",
                "drop(0) = 40");
    }

    /** A man who is out keeps his trust, so that the least trust that fits to one item is that item. */
    private static void zeroAtFirst() {
        Sentences.edge(PART, "0 at first.");
        Run run = Run.of(Run.QUEUE).says("years(2) = 0", "man(0, 1) = 2");
        for (int lane = 0; lane <= 2; lane++) {
            run.says("row(3, " + lane + ", 40) = 40", "who(0, 2, 3, 0, 1) = 0", "who(0, 2, 3, 28, 12) = 0",
                    "set(3, 0, 7) = 7", "set(3, 39, 9) = 9")
                .says("who(0, 2, 3, 0, 1) = 7", "who(0, 2, 3, 39, 1) = 9");
        }
        run.says("row(3, 2, 1) = 1", "row(3, 2, 40) = 40", "who(0, 2, 3, 0, 1) = 0", "who(0, 2, 3, 39, 1) = 0")
            .says("set(3, 5, 8) = 8", "drop(3) = 40", "row(3, 2, 40) = 40", "who(0, 2, 3, 5, 1) = 0");
    }

    private static void promise1() {
        Sentences.edge("promise 1", "JudgeHalves(): No CIRCUIT.");
        Run.fresh().says("count(1) = 0", "count(2) = 0", "stand(0) = STATE", "image(0) = STATE", "man(0, 0) = BAD",
                "judge(0, 0) = BAD", "kind(0) = BAD")
            .says("years(1) = STATE", "undo() = STATE", "restore(0) = STATE", "restore(1) = STATE", "fault() = 0",
                "status() = 0", "trace(0) = NONE");
    }

    private static void promise2() {
        Sentences.edge("promise 2",
                "int row(int row, int lane, int n): A ROW of a LANE with n ITEMS, in place of what is there: n.");
        Run.fresh().says("row(2, 1, 3) = 3", "set(2, 0, 70000) = 4464", "row(2, 2, 2) = 2", "set(2, 0, 70000) = 70000",
                "set(2, 2, 1) = PLACE", "count(0) = 1");
        Sentences.edge("promise 2", "BAD: ROW, LANE, n above 40; SIZE.");
        Limits.of(2);
        Run.fresh().says("row(2, 1, 3) = 3", "row(2, 0, -1) = SIZE", "row(2, 0, MIN) = SIZE", "set(2, 0, 300) = 300",
                "drop(2) = 3");
    }

    private static void promise3() {
        Sentences.edge("promise 3",
                "int set(int row, int i, int v): ITEM i becomes v, its lowest bits, as many as the LANE has: what it is then.");
        Run.fresh().says("row(0, 0, 1) = 1", "row(1, 1, 1) = 1", "row(2, 2, 1) = 1")
            .says("set(0, 0, 127) = 127", "set(0, 0, 128) = -128", "set(0, 0, 255) = -1", "set(0, 0, 256) = 0",
                "set(0, 0, -128) = -128", "set(0, 0, -129) = 127")
            .says("set(0, 0, MAX) = -1", "set(0, 0, MIN) = 0")
            .says("set(1, 0, 32767) = 32767", "set(1, 0, 32768) = -32768", "set(1, 0, 65535) = -1",
                "set(1, 0, 65536) = 0", "set(1, 0, -32768) = -32768")
            .says("set(1, 0, -32769) = 32767", "set(1, 0, MAX) = -1", "set(1, 0, MIN) = 0")
            .says("set(2, 0, MAX) = MAX", "set(2, 0, MIN) = MIN", "set(2, 0, -1) = -1");
        // what is kept is what was answered
        Run.of(Run.QUEUE).says("years(2) = 0", "row(0, 0, 1) = 1", "set(0, 0, 256) = 0", "who(0, 2, 0, 0, 1) = 0",
                "set(0, 0, 261) = 5", "who(0, 2, 0, 0, 1) = 5");
        Sentences.edge("promise 3", "BAD: ROW; NULL; PLACE.");
        Limits.of(3);
        Run.fresh().says("set(0, 0, 1) = NULL", "set(0, 50, 1) = NULL", "row(0, 0, 0) = 0", "set(0, 0, 1) = PLACE",
                "set(8, 0, 1) = BAD");
    }

    private static void promise4() {
        Sentences.edge("promise 4",
                "int copy(int a, int i, int b, int j, int n): n ITEMS of a from i on come to b from j on, as they were ahead: n.");
        Run run = Run.of(Run.QUEUE).says("years(2) = 0").told(0, 1, 2, 3, 4, 5).told(1, 11, 12, 13, 14, 15);
        run.says("copy(0, 0, 0, 1, 4) = 4");
        items(run, 0, 1, 1, 2, 3, 4);
        run.says("copy(0, 1, 0, 0, 4) = 4");
        items(run, 0, 1, 2, 3, 4, 4);
        run.says("copy(0, 3, 1, 0, 2) = 2");
        items(run, 1, 4, 4, 13, 14, 15);
        run.says("copy(1, 0, 0, 0, 5) = 5");
        items(run, 0, 4, 4, 13, 14, 15);
        run.says("copy(0, 2, 1, 2, 0) = 0", "copy(0, 5, 1, 5, 0) = 0", "copy(0, 0, 0, 0, 5) = 5");
        items(run, 1, 4, 4, 13, 14, 15);
        Sentences.edge("promise 4", "BAD: ROWS; NULL; STORE; PLACE (i, j, n below 0, or beyond an end).");
        Limits.of(4);
        Run.fresh().told(0, 1, 2, 3).says("copy(0, 0, 1, 0, 1) = NULL", "copy(1, 0, 0, 0, 1) = NULL",
                "copy(1, -1, 2, -1, -1) = NULL", "row(1, 1, 5) = 5")
            .says("copy(0, 0, 1, 0, 1) = STORE", "copy(1, 0, 0, 0, 0) = STORE", "copy(0, -1, 1, 9, -1) = STORE",
                "row(1, 2, 2) = 2")
            .says("copy(0, -1, 1, 0, 1) = PLACE", "copy(0, 0, 1, -1, 1) = PLACE", "copy(0, 0, 1, 0, -1) = PLACE",
                "copy(0, 0, 1, 0, 3) = PLACE")
            .says("copy(0, 2, 1, 0, 2) = PLACE", "copy(0, 0, 1, 1, 2) = PLACE", "copy(0, 4, 1, 0, 0) = PLACE",
                "copy(0, 0, 1, 3, 0) = PLACE")
            .says("copy(0, 1, 1, 0, MAX) = PLACE", "copy(0, MAX, 1, 0, 1) = PLACE", "copy(0, 0, 1, MAX, MAX) = PLACE",
                "copy(0, MIN, 1, MIN, MIN) = PLACE")
            .says("copy(0, 1, 1, 0, 2) = 2", "copy(8, 0, 1, 0, 1) = BAD", "copy(0, 0, -1, 0, 1) = BAD",
                "copy(8, -1, 3, 0, 1) = BAD");
        Run.fresh().told(0).told(1).says("copy(0, 0, 1, 0, 0) = 0", "copy(0, 0, 1, 0, 1) = PLACE");
    }

    private static void items(Run run, int row, int... due) {
        for (int i = 0; i < due.length; i++) {
            run.says("who(0, 2, " + row + ", " + i + ", 1) = " + due[i]);
        }
    }

    private static void promise5() {
        Sentences.edge("promise 5", "int drop(int row): A ROW is missing from now on: how many ITEMS it had.");
        Run.fresh().says("row(7, 0, 40) = 40", "row(6, 0, 0) = 0", "drop(7) = 40", "drop(6) = 0", "count(0) = 0",
                "set(7, 0, 1) = NULL", "set(6, 0, 1) = NULL");
        Sentences.edge("promise 5", "BAD; NULL.");
        Limits.of(5);
        Run.fresh().says("drop(0) = NULL", "row(0, 0, 1) = 1", "drop(0) = 1", "drop(0) = NULL", "drop(8) = BAD");
    }
}
