/** Texts: the rest of part 1, and promises 6 to 8. */
final class TextEdges {
    private static final String PART = "part 1";
    private static final String SORTS = "tfswb";

    private TextEdges() {
    }

    static void all() {
        tape();
        letters();
        numbers();
        signs();
        grammar();
        law();
        judges();
        men();
        placeOfTheOneBefore();
        faults();
        promise6();
        promise7();
        promise8();
    }

    private static void fault(String text, int place, int number) {
        Run.fresh().fed(text).says("circuit() = " + (-1000100 - place), "fault() = " + number, "count(1) = 0",
                "count(7) = 0");
    }

    private static void good(String text, int men) {
        Run.fresh().fed(text).says("circuit() = " + men, "fault() = 0", "count(1) = " + men, "count(7) = 0");
    }

    private static void tape() {
        Sentences.edge(PART, "TEXTS: THE TAPE has at most 120 bytes, that come one by one;");
        Run run = Run.fresh().says("count(7) = 0");
        for (int i = 1; i <= 120; i++) {
            run.says("feed(" + (i % 256) + ") = " + i, "count(7) = " + i);
        }
        run.says("feed(0) = FULL", "feed(255) = FULL", "count(7) = 120");
        // a whole tape is read to its end: all of it but the last byte stands
        String men = "l01,01;j00,00;j00,00;j00,00;j00,00;t00,01;t00,01;t00,01;t00,01;t00,01;t00,01;";
        good(men, 6);
        fault(men + "x".repeat(120 - men.length()), men.length(), 1);
    }

    private static void letters() {
        Sentences.edge(PART, "TOKENS: letters a to z (each by itself),");
        fault("ll1,1;", 1, 1);
        fault("l1,1;jj0,0;", 6, 1);
        fault("l1,1;j0,0;tt0,1;", 11, 1);
        fault("l1,1;j0,0;tf0,1;", 11, 1);
        fault("L1,1;", 0, 1);
        fault("`1,1;", 0, 1);
        fault("{1,1;", 0, 1);
        fault("l1,1;J0,0;", 5, 1);
        fault("l1,1;j0,0;T0,1;", 10, 1);
        // what may begin, and what may stand behind a whole circuit
        for (int b = 0; b < 256; b++) {
            fault("" + (char) b, b == 'l' ? 1 : 0, 1);
            fault("l1,1;j0,0;t0,1;" + (char) b, SORTS.indexOf(b) >= 0 ? 16 : 15, 1);
            fault("l1,1;" + (char) b, b == 'j' ? 6 : 5, 1);
        }
    }

    private static void numbers() {
        Sentences.edge(PART, "NUMBERS (figures, 2 at most),");
        Run.fresh().fed("l09,60;j09,01;t00,30;").says("circuit() = 1", "stand(4) = 9", "stand(5) = 60",
                "judge(0, 0) = 9", "judge(0, 1) = 1", "man(0, 2) = 30");
        Run.fresh().fed("l9,6;j9,1;t0,3;").says("circuit() = 1", "stand(4) = 9", "stand(5) = 6", "judge(0, 0) = 9",
                "judge(0, 1) = 1", "man(0, 2) = 3");
        fault("l009,1;", 1, 1);
        fault("l1,060;", 3, 1);
        fault("l1,1;j000,0;", 6, 1);
        fault("l1,1;j0,001;", 8, 1);
        fault("l1,1;j0,0;t000,1;", 11, 1);
        fault("l1,1;j0,0;t0,001;", 13, 1);
        fault("l,1;", 1, 1);
        fault("l1,;", 3, 1);
        fault("l1 2,1;", 2, 1);
        // a figure, or none, where a number may begin
        for (int b = 0; b < 256; b++) {
            boolean isFigure = b >= '0' && b <= '9';
            fault("l" + (char) b, isFigure && b != '0' ? 2 : 1, b == '0' ? 2 : 1);
        }
    }

    private static void signs() {
        Sentences.edge(PART, "SIGNS , and ; nothing else.");
        fault("l1;1;", 2, 1);
        fault("l1,1,", 4, 1);
        fault("l1.1;", 2, 1);
        fault("l1,1:", 4, 1);
        fault(" l1,1;", 0, 1);
        fault("l1,1; j0,0;", 5, 1);
        fault("l+1,1;", 1, 1);
        fault("l-1,1;", 1, 1);
        fault("l1,1;j0,0;t0,1;\n", 15, 1);
        fault("l1,1;j0,0;t0,1;;", 15, 1);
        for (int b = 0; b < 256; b++) {
            boolean isFigure = b >= '0' && b <= '9';
            fault("l1" + (char) b, isFigure ? 1 : b == ',' ? 3 : 2, isFigure ? 2 : 1);
            fault("l1,6" + (char) b, isFigure && b != '0' ? 3 : b == ';' || b == '0' ? 5 : 4,
                    isFigure && b != '0' ? 2 : 1);
        }
    }

    private static void grammar() {
        Sentences.edge(PART, "circuit: law judge { judge } man { man }.");
        fault("", 0, 1);
        fault("l1,1;", 5, 1);
        fault("j0,0;t0,1;", 0, 1);
        fault("t0,1;", 0, 1);
        fault("l1,1;t0,1;", 5, 1);
        fault("l1,1;j0,0;", 10, 1);
        fault("l1,1;l1,1;j0,0;t0,1;", 5, 1);
        fault("l1,1;j0,0;l1,1;t0,1;", 10, 1);
        fault("l1,1;j0,0;t0,1;j0,0;t0,1;", 15, 1);
        fault("l1,1;j0,0;t0,1;l1,1;", 15, 1);
        good("l1,1;j0,0;t0,1;", 1);
        good("l1,1;j0,0;j0,0;t0,1;t1,1;", 2);
    }

    private static String figures(int v) {
        return Integer.toString(v);
    }

    private static void law() {
        Sentences.edge(PART, "law: l BEANS , LIKE ; (1 to 9; 1 to 60).");
        for (int v = 0; v < 100; v++) {
            String beans = "l" + figures(v) + ",1;j0,0;t0,1;";
            if (v >= 1 && v <= 9) {
                good(beans, 1);
                Run.of(beans).says("stand(4) = " + v);
            } else {
                fault(beans, 1, 2);
            }
            String like = "l1," + figures(v) + ";j0,0;t0,1;";
            if (v >= 1 && v <= 60) {
                good(like, 1);
                Run.of(like).says("stand(5) = " + v);
            } else {
                fault(like, 3, 2);
            }
        }
        fault("l1,1", 4, 1);
        fault("l1,", 3, 1);
        fault("l1", 2, 1);
        fault("l", 1, 1);
    }

    private static void judges() {
        Sentences.edge(PART, "judge: j SEVERE , GATE ; (0 to 9; 0 shut, 1 open; JUDGES 0 .. 3, 4 at most).");
        for (int v = 0; v < 100; v++) {
            String severe = "l1,1;j" + figures(v) + ",0;t0,1;";
            if (v <= 9) {
                Run.of(severe).says("judge(0, 0) = " + v);
            } else {
                fault(severe, 6, 2);
            }
            String gate = "l1,1;j0," + figures(v) + ";t0,1;";
            if (v <= 1) {
                Run.of(gate).says("judge(0, 1) = " + v);
            } else {
                fault(gate, 8, 2);
            }
        }
        String text = "l1,1;";
        for (int judges = 1; judges <= 4; judges++) {
            text += "j" + judges + ",0;";
            Run.of(text + "t0,1;").says("count(2) = " + judges, "judge(" + (judges - 1) + ", 0) = " + judges,
                    "judge(" + judges + ", 0) = BAD");
        }
        fault(text + "j5,0;t0,1;", 25, 3);
        fault(text, 25, 1);
    }

    private static void men() {
        Sentences.edge(PART,
                "man: SORT JUDGE , YEARS ; (SORT: t a thief, f one for life, s one who sings, w one wronged, b a boy; "
            + "one of the JUDGES; 1 to 30; MEN 0 .. 5, 6 at most).");
        for (char c = 'a'; c <= 'z'; c++) {
            int kind = SORTS.indexOf(c) + 1;
            if (kind > 0) {
                Run.of("l1,1;j0,0;" + c + "0,1;").says("kind(0) = " + kind);
            } else if (c != 'j') {
                fault("l1,1;j0,0;" + c + "0,1;", 10, 1);
            }
        }
        String judges = "l1,1;";
        for (int there = 1; there <= 4; there++) {
            judges += "j0,0;";
            for (int v = 0; v < 100; v++) {
                String text = judges + "t" + figures(v) + ",1;";
                if (v < there) {
                    Run.of(text).says("man(0, 0) = " + v);
                } else {
                    fault(text, judges.length() + 1, 2);
                }
            }
        }
        for (int v = 0; v < 100; v++) {
            String text = "l1,1;j0,0;t0," + figures(v) + ";";
            if (v >= 1 && v <= 30) {
                Run.of(text).says("man(0, 2) = " + v);
            } else {
                fault(text, 13, 2);
            }
        }
        String text = "l1,1;j0,0;";
        for (int men = 1; men <= 6; men++) {
            text += "t0," + men + ";";
            Run.of(text).says("count(1) = " + men, "man(" + (men - 1) + ", 2) = " + men, "man(" + men + ", 2) = BAD");
        }
        for (char c : SORTS.toCharArray()) {
            fault(text + c + "0,1;", 40, 3);
        }
    }

    private static void placeOfTheOneBefore() {
        Sentences.edge(PART, "A CIRCUIT that is read stands in place of the one before (none at first):");
        Run.fresh().says("stand(0) = STATE", "count(1) = 0").fed("l4,9;j6,1;j2,0;t0,3;f1,5;").says("circuit() = 2",
                "count(2) = 2", "stand(4) = 4")
            .fed("l2,7;j1,0;b0,3;").says("circuit() = 1", "count(1) = 1", "count(2) = 1", "stand(4) = 2",
                "stand(5) = 7", "judge(0, 0) = 1")
            .says("judge(0, 1) = 0", "kind(0) = 5", "kind(1) = BAD", "judge(1, 0) = BAD");
        Sentences.edge(PART, "YEAR 0, all MEN WAIT, TRUST of all is 0; no ACT can be undone.");
        Run.of(Run.MANY).says("years(3) = 9", "gate(0, 0) = 1", "count(6) = 4", "count(4) = 39").fed(Run.MANY)
            .says("circuit() = 6")
            .says("count(3) = 0", "stand(0) = 63", "stand(1) = 0", "stand(2) = 0", "stand(3) = 0", "count(4) = 0",
                "count(6) = 0", "undo() = STATE")
            .says("judge(0, 1) = 1", "man(0, 2) = 3", "judge(0, 2) = NONE");
    }

    private static void faults() {
        Sentences.edge(PART, "FAULTS, the first TOKEN that has one (its first byte),");
        fault("l0,61;k", 1, 2);
        fault("l1,61;k", 3, 2);
        fault("l1;61;", 2, 1);
        fault("l10,1;", 1, 2);
        fault("l1,99;", 3, 2);
        fault("l1,1;j12,2;", 6, 2);
        fault("l1,1;j0,0;t9,99;", 11, 2);
        fault("l0,1; 999", 1, 2);
        Sentences.edge(PART, "of one TOKEN the least:");
        // four judges, and one more behind a man; three figures where a number is due; two where none is
        fault("l1,1;j0,0;j0,0;j0,0;j0,0;t0,1;j0,0;", 30, 1);
        fault("l100,1;", 1, 1);
        fault("l1,1;j0,0;t0,999;", 13, 1);
        fault("l1,1;77", 5, 1);
        Sentences.edge(PART,
                "1 it cannot stand there, or is none (a run of three figures, at its first; the end: how many bytes there are);");
        fault("l1,1;b", 5, 1);
        fault("l123", 1, 1);
        fault("l1,123;", 3, 1);
        fault("l1234567,1;", 1, 1);
        fault("123", 0, 1);
        fault("l1,1;j0,0;t0,1;000", 15, 1);
        // the numbers that letters have are no letters
        fault("108,1;", 0, 1);
        fault("l1,1;106,0;", 5, 1);
        fault("l1,1;j0,0;116,1;", 10, 1);
        String whole = "l1,1;j0,0;t0,1;";
        for (int bytes = 0; bytes < whole.length(); bytes++) {
            fault(whole.substring(0, bytes), bytes, 1);
        }
        good(whole, 1);
        Sentences.edge(PART, "2 a NUMBER that is not as told;");
        fault("l0,1;", 1, 2);
        fault("l1,61;", 3, 2);
        fault("l1,1;j10,0;", 6, 2);
        fault("l1,1;j0,2;", 8, 2);
        fault("l1,1;j0,0;t1,1;", 11, 2);
        fault("l1,1;j0,0;t0,31;", 13, 2);
        Sentences.edge(PART, "3 a judge, a man more than there is room for (its letter).");
        String judges = "l1,1;j0,0;j0,0;j0,0;j0,0;";
        fault(judges + "j", 25, 3);
        fault(judges + "j9,9;", 25, 3);
        good(judges + "t3,1;", 1);
        String men = "l1,1;j0,0;t0,1;f0,1;s0,1;w0,1;b0,1;t0,1;";
        fault(men + "t", 40, 3);
        fault(men + "b9,9;", 40, 3);
        fault(men + "j0,0;", 40, 1);
        fault(men + "l", 40, 1);
        fault(men + "0", 40, 1);
        good(men, 6);
    }

    private static void promise6() {
        Sentences.edge("promise 6", "int feed(int letter): A byte (0 to 255) comes behind the tape: how many it has.");
        Run.fresh().says("feed(0) = 1", "feed(255) = 2", "feed(-1) = BAD", "feed(256) = BAD", "feed(MIN) = BAD",
                "feed(MAX) = BAD", "count(7) = 2");
        Sentences.edge("promise 6", "BAD; FULL.");
        Limits.of(6);
        Run run = Run.fresh();
        for (int i = 0; i < 120; i++) {
            run.does("feed(108)");
        }
        run.says("feed(108) = FULL", "feed(256) = BAD", "count(7) = 120", "circuit() = -1000101", "feed(108) = 1");
    }

    private static void promise7() {
        Sentences.edge("promise 7", "int circuit(): The tape, empty then, is read: how many MEN there are.");
        Run.of(Run.QUEUE).says("count(7) = 0", "circuit() = -1000100", "fault() = 1").fed(Run.MANY)
            .says("count(7) = 50", "circuit() = 6", "count(7) = 0", "feed(1) = 1");
        Sentences.edge("promise 7", "-1000100 less the place of a FAULT: all stays.");
        Run.of(Run.MANY).says("years(3) = 9", "gate(0, 0) = 1").fed("l1,1;j0,0;t0,1;x").says("circuit() = -1000115",
                "count(7) = 0")
            .says("count(1) = 6", "count(2) = 3", "count(3) = 3", "count(6) = 4", "stand(3) = 9", "stand(4) = 4",
                "judge(0, 1) = 0", "judge(0, 0) = 6", "kind(0) = 1")
            .says("man(1, 2) = 5", "undo() = 3", "judge(0, 1) = 1");
    }

    private static void promise8() {
        Sentences.edge("promise 8", "int fault(): The number of the latest FAULT; 0 before one.");
        Run.fresh().says("fault() = 0").fed(Run.QUEUE).says("circuit() = 3", "fault() = 0").fed("l0")
            .says("circuit() = -1000101", "fault() = 2")
            .fed(Run.QUEUE).says("circuit() = 3", "fault() = 2").says("circuit() = -1000100", "fault() = 1");
        Run.fresh().fed("l1,1;j0,0;j0,0;j0,0;j0,0;j").says("circuit() = -1000125", "fault() = 3");
    }
}
