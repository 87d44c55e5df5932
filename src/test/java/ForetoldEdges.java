/** What is foretold and planned: the first half of part 3, and promises 19 to 27. */
final class ForetoldEdges {
    private static final String PART = "part 3";
    /** By judge 0 a thief grows 1 a year, by judge 1 nothing. */
    private static final String TWO = "l1,60;j0,0;j9,0;t0,2;t0,2;";

    private ForetoldEdges() {
    }

    static void all() {
        nothingChanges();
        ahead();
        by();
        when();
        send();
        gates();
        let();
        closest();
        share();
        turns();
        promises19To21();
        promises22To24();
        promises25To27();
    }

    private static void nothingChanges() {
        Sentences.edge(PART, "FORETOLD (nothing changes).");
        Limits.made(Limits.MIXED).does("ahead(0, 60, 0)", "by(0, 60)", "when(2, 3)", "sending(30, -1)", "gates(30, 0)",
                "let(30, 0)", "closest(0, 0)",
            "share(0, 999)", "byTurns(0, 1, 4, 20)", "who(0, 0, 0, 0, 12)", "who(0, 1, 0, 0, 12)",
                    "severes(0, 0, 0, 0, 12)", "likes(0, 0, 0, 0, 12)",
            "fence(0, 8, 5, 0)", "drawn(60, 999999, 0)")
            .says("count(3) = 3", "count(4) = 22", "count(6) = 5", "stand(0) = 36", "stand(1) = 18", "stand(2) = 8",
                "stand(3) = 1", "stand(5) = 9", "man(2, 0) = 0")
            .says("man(4, 2) = 5", "kind(0) = 1", "judge(0, 0) = 6", "judge(0, 1) = 0", "undo() = 4", "judge(0, 1) = 1",
                "undo() = 3", "judge(1, 0) = 2");
    }

    private static void ahead() {
        Sentences.edge(PART,
                "AHEAD by n YEARS (0 to 60) of a MAN: TRUST; how he is (0 WAITS, 1 BESIDE, 2 OUT, 3 SETTLED); YEARS that he has yet.");
        Run.of("l1,60;j0,0;t0,30;t0,30;").says("ahead(0, 0, 0) = 0", "ahead(0, 0, 1) = 0", "ahead(0, 0, 2) = 30",
                "ahead(0, 1, 0) = 1", "ahead(0, 1, 1) = 1", "ahead(0, 1, 2) = 29")
            .says("ahead(0, 29, 1) = 1", "ahead(0, 29, 2) = 1", "ahead(0, 30, 1) = 2", "ahead(0, 30, 2) = 0",
                "ahead(1, 30, 1) = 0", "ahead(1, 31, 1) = 1")
            .says("ahead(1, 59, 0) = 29", "ahead(1, 59, 1) = 1", "ahead(1, 59, 2) = 1", "ahead(1, 60, 0) = 30",
                "ahead(1, 60, 1) = 2", "ahead(1, 60, 2) = 0", "ahead(1, 61, 0) = BAD");
        Run.of("l1,1;j0,0;t0,1;").says("ahead(0, 1, 1) = 3", "years(1) = 1", "ahead(0, 0, 1) = 3",
                "ahead(0, 60, 1) = 3");
        Run.of("l9,60;j0,1;f0,7;").says("ahead(0, 9, 0) = 90", "ahead(0, 10, 0) = 99", "ahead(0, 60, 0) = 99",
                "ahead(0, 60, 2) = 7");
    }

    private static void by() {
        Sentences.edge(PART,
                "BY a JUDGE, n YEARS on (0 to 60): the MAN who lives BESIDE him, or has SETTLED there; NONE.");
        Run.of("l1,60;j0,0;j0,0;t0,30;t0,30;").says("by(0, 0) = NONE", "by(0, 1) = 0", "by(0, 29) = 0",
                "by(0, 30) = NONE", "by(0, 31) = 1", "by(0, 59) = 1", "by(0, 60) = NONE")
            .says("by(0, 61) = BAD", "by(0, -1) = BAD", "by(1, 0) = NONE", "by(1, 60) = NONE").says("years(1) = 0",
                "by(0, 0) = 0", "by(0, 60) = NONE");
        Run.of("l1,30;j0,0;t0,30;t0,30;").says("by(0, 30) = 0", "by(0, 60) = 0");
    }

    private static void when() {
        Sentences.edge(PART,
                "WHEN a MAN is so (1 BESIDE, 2 OUT, 3 SETTLED): behind how many YEARS (0 to 60) first; NONE.");
        Run.of("l1,60;j0,0;t0,30;t0,30;t0,1;").says("when(0, 1) = 1", "when(0, 2) = 30", "when(0, 3) = NONE",
                "when(1, 1) = 31", "when(1, 2) = 60", "when(2, 1) = NONE", "when(2, 2) = NONE")
            .says("years(1) = 0", "when(0, 1) = 0", "when(1, 2) = 59", "when(2, 2) = 60", "when(0, 0) = BAD",
                "when(0, 4) = BAD");
        // who comes and goes within one year is never seen beside
        Run.of("l1,60;j0,0;t0,1;").says("when(0, 1) = NONE", "when(0, 2) = 1", "years(1) = 0", "when(0, 2) = 0",
                "when(0, 1) = NONE", "when(0, 3) = NONE");
        // settled behind 60 years, and behind 61
        Run.of("l2,60;j0,0;w0,30;t0,30;").says("when(0, 3) = NONE", "when(0, 2) = 30", "when(1, 1) = 31",
                "when(1, 3) = 60", "when(1, 2) = NONE");
        Run.of("l2,60;j0,0;w0,30;w0,1;t0,30;").says("when(2, 1) = 32", "when(2, 3) = NONE", "years(1) = 0",
                "when(2, 3) = 60");
        Run.of("l1,1;j0,0;t0,1;").says("years(1) = 1", "when(0, 3) = 0");
    }

    private static void send() {
        Sentences.edge(PART, "SEND for n YEARS (1 to 30):");
        Run.of("l1,60;j0,0;j9,0;t1,30;").says("sending(0, -1) = BAD", "sending(1, -1) = 0", "sending(29, -1) = 0",
                "sending(30, -1) = 1", "sending(31, -1) = BAD", "sending(1, 0) = 0", "sending(30, 0) = 0");
        Sentences.edge(PART,
                "of all ways to send those who WAIT now to JUDGES, that by which most MEN are OUT or have SETTLED behind them,");
        Run.of(TWO).says("sending(2, -1) = 2", "sending(2, 0) = 0", "sending(2, 1) = 1", "sending(3, -1) = 2",
                "sending(1, -1) = 0")
            .says("years(2) = 0", "stand(2) = 1", "sending(1, -1) = 1", "sending(2, -1) = 2");
        Run.of("l9,1;j0,0;j0,0;t0,1;t0,1;t0,1;").says("sending(30, -1) = 2", "sending(30, 0) = 0", "sending(30, 1) = 0",
                "sending(30, 2) = 1");
        Limits.made(Limits.OUT).says("sending(1, -1) = 6", "sending(30, -1) = 6");
        Sentences.edge(PART, "of several that by which most TRUST there is, all together,");
        Run.of(TWO).says("sending(4, -1) = 2", "sending(4, 0) = 0", "sending(4, 1) = 0");
        Run.of("l1,60;j9,0;j0,0;t0,9;").says("sending(1, 0) = 1", "sending(9, 0) = 1", "sending(9, -1) = 1");
        Run.of("l1,60;j9,0;j3,0;j6,0;j0,0;t0,9;").says("sending(1, 0) = 3");
        Sentences.edge(PART, "of several the first (by numbers of JUDGES, MAN by MAN): how many;");
        Run.of("l1,60;j0,0;j0,0;t1,2;t1,2;").says("sending(2, 0) = 0", "sending(2, 1) = 1", "sending(1, 0) = 0",
                "sending(1, 1) = 1", "sending(4, 0) = 0", "sending(4, 1) = 0");
        Run.of("l1,60;j9,0;j9,0;j9,0;j9,0;w3,1;w3,1;w3,1;w3,1;w3,1;w3,1;").says("sending(1, -1) = 4",
                "sending(6, -1) = 6")
            .says("sending(1, 0) = 0", "sending(1, 1) = 0", "sending(1, 2) = 0", "sending(1, 3) = 1",
                "sending(1, 4) = 2", "sending(1, 5) = 3", "sending(6, 5) = 0");
        Sentences.edge(PART, "the JUDGE of a MAN (as it is, if he does not WAIT).");
        Limits.made(Limits.OUT).says("sending(30, 0) = 0", "sending(30, 1) = 0", "sending(30, 2) = 1",
                "sending(30, 3) = 1", "sending(30, 4) = 2", "sending(30, 5) = 2");
        Limits.made(Limits.MIXED).says("sending(1, 0) = 0", "sending(1, 1) = 1", "sending(1, 3) = 2",
                "sending(1, 4) = 2");
        // nobody is done, and there is no trust at all
        Run.of("l1,60;j9,0;j9,0;w1,9;w1,9;").says("years(1) = 0", "sending(1, -1) = 0", "sending(1, 0) = 1",
                "sending(1, 1) = 0");
    }

    private static void gates() {
        Sentences.edge(PART, "GATES for n YEARS (1 to 30):");
        Run.of("l1,60;j9,0;t0,30;").says("gates(0, 0) = BAD", "gates(1, 1) = 1", "gates(30, 1) = 30",
                "gates(31, 0) = BAD", "gates(30, 0) = 1");
        Sentences.edge(PART,
                "the set of GATES that are open from now on (others shut), by which most TRUST there is behind them, all together,");
        Run.of("l9,60;j0,0;j0,0;j0,0;j0,0;t0,30;t1,30;t2,30;t3,30;").says("gates(1, 0) = 15", "gates(1, 1) = 40",
                "gates(9, 1) = 360", "years(1) = 0", "gates(1, 1) = 76");
        // an open gate settles the first, so that the boy waits for good
        Run.of("l1,2;j0,1;t0,1;b0,30;").says("gates(30, 0) = 0", "gates(30, 1) = 30", "gates(2, 1) = 2",
                "gates(1, 0) = 1", "gates(1, 1) = 2");
        Sentences.edge(PART, "of several the least: which (bits); how much.");
        Run.of("l1,60;j0,1;j9,1;w0,5;w1,5;").says("gates(2, 0) = 2", "gates(2, 1) = 18");
        Run.of("l9,60;j0,1;f0,1;").says("gates(10, 0) = 1", "gates(10, 1) = 99", "gates(11, 0) = 0",
                "gates(11, 1) = 99");
        Run.of("l1,2;j0,1;t0,1;b0,30;").says("gates(2, 0) = 0");
        Limits.made(Limits.OUT).says("gates(30, 0) = 0", "gates(30, 1) = 0");
        // no trust, whatever is open; what an earlier call answered does not matter
        Run.of("l1,60;j9,0;t0,30;").says("gates(30, 0) = 1").fed("l1,60;j0,1;w0,9;").says("circuit() = 1",
                "gates(9, 0) = 0", "gates(9, 1) = 0");
    }

    private static void let() {
        Sentences.edge(PART, "LET for n YEARS (1 to 30):");
        Run.of("l1,60;j0,0;t0,29;t0,1;").says("let(0, 0) = BAD", "let(1, 0) = 1", "let(29, 0) = 1", "let(30, 0) = 0",
                "let(31, 0) = BAD", "let(29, 1) = 1", "let(30, 1) = 0");
        Sentences.edge(PART,
                "the fewest MEN who WAIT or live BESIDE, let off now (OUT), by which nobody WAITS behind them: how many;");
        Run.of("l1,60;j0,0;f0,30;t0,1;t0,1;").says("let(1, 0) = 2", "let(2, 0) = 1", "let(30, 0) = 1", "years(1) = 0",
                "stand(1) = 1", "let(2, 0) = 1", "let(2, 1) = 1");
        Run.of("l1,60;j0,0;f0,1;f0,1;f0,1;f0,1;f0,1;f0,1;").says("let(30, 0) = 5", "let(1, 0) = 5");
        Limits.made(Limits.OUT).says("let(1, 0) = 0", "let(30, 0) = 0");
        // the first would settle, so that the other one would wait for good
        Run.of("l5,1;j0,0;t0,1;t0,1;").says("let(1, 0) = 1", "let(2, 0) = 1", "let(2, 1) = 1", "let(30, 0) = 1");
        Run.of("l5,6;j0,0;t0,1;t0,1;").says("let(1, 0) = 1", "let(2, 0) = 0");
        // who has settled cannot be let off
        Run.of("l5,1;j0,0;t0,1;t0,1;t0,1;").says("years(1) = 1", "let(30, 0) = 2", "let(30, 1) = 6");
        Sentences.edge(PART, "which (bits), of several the least.");
        Run.of("l1,60;j0,0;f0,30;t0,1;t0,1;").says("let(1, 1) = 3", "let(2, 1) = 1");
        Run.of("l1,60;j0,0;f0,1;f0,1;f0,1;f0,1;f0,1;f0,1;").says("let(30, 1) = 31");
        Limits.made(Limits.OUT).says("let(1, 1) = 0", "let(30, 1) = 0");
    }

    private static void closest() {
        Sentences.edge(PART,
                "CLOSEST of a JUDGE: the MAN whose JUDGE he is with most TRUST, of several the first; how much; NONE.");
        Run.of("l1,60;j0,0;j0,0;t0,1;t0,2;t0,1;").says("closest(0, 0) = 0", "closest(0, 1) = 0", "closest(1, 0) = NONE",
                "closest(1, 1) = NONE")
            .says("years(3) = 0", "closest(0, 0) = 1", "closest(0, 1) = 2", "years(1) = 0", "man(2, 3) = 1",
                "closest(0, 0) = 1")
            .says("retry(1, 1, 1) = 5", "closest(0, 0) = 0", "closest(0, 1) = 1", "closest(1, 0) = 1",
                "closest(1, 1) = 2");
    }

    private static void share() {
        Sentences.edge(PART, "SHARE of n beans (0 to 999):");
        Run.of(Run.QUEUE).says("years(1) = 0", "share(0, -1) = BAD", "share(0, 0) = 0", "share(0, 1) = 1",
                "share(0, 999) = 999", "share(0, 1000) = BAD");
        Sentences.edge(PART,
                "each MAN who lives BESIDE or has SETTLED gets as many as n times TRUST by all TRUST of these (cut),");
        // trust is 1, 2 and 9; the fourth waits
        Run.of("l1,60;j0,0;j0,1;j9,1;t0,9;t1,9;w2,9;t0,9;").says("years(1) = 0", "share(0, 12) = 1", "share(1, 12) = 2",
                "share(2, 12) = 9", "share(3, 12) = 0")
            .says("share(0, 996) = 83", "share(1, 996) = 166", "share(2, 996) = 747", "share(2, 11) = 8");
        Run.of("l1,1;j0,0;j0,0;t0,1;t1,9;").says("years(1) = 1", "stand(3) = 1", "stand(1) = 2", "share(0, 10) = 5",
                "share(1, 10) = 5");
        Run.of(Run.QUEUE).says("years(3) = 0", "man(0, 3) = 2", "man(0, 1) = 2", "share(0, 10) = 0",
                "share(1, 10) = 10", "share(2, 10) = 0");
        Run.of("l9,60;j0,1;j0,1;f0,1;f1,1;").says("years(24) = 0", "share(0, 999) = 500", "share(1, 999) = 499");
        Sentences.edge(PART, "what is over 1 each to the first ones who have any: how many a MAN gets");
        Run.of("l1,60;j0,0;j0,0;j0,0;t0,9;t1,9;t2,9;").says("years(1) = 0", "share(0, 1) = 1", "share(1, 1) = 0",
                "share(2, 1) = 0", "share(0, 2) = 1", "share(1, 2) = 1", "share(2, 2) = 0")
            .says("share(0, 3) = 1", "share(2, 3) = 1", "share(0, 5) = 2", "share(1, 5) = 2", "share(2, 5) = 1");
        Run.of("l1,60;j9,0;j0,0;j0,0;t0,9;t1,9;t2,9;").says("years(1) = 0", "share(0, 1) = 0", "share(1, 1) = 1",
                "share(2, 1) = 0", "share(1, 3) = 2", "share(2, 3) = 1", "share(0, 999) = 0");
        // one who is out, or waits once more, has trust, but no part
        Run.of("l1,60;j0,0;j0,0;t0,1;t0,9;t1,9;").says("years(2) = 0", "man(0, 3) = 1", "man(1, 3) = 1",
                "man(2, 3) = 2", "share(0, 1) = 0", "share(1, 1) = 1", "share(2, 1) = 0", "share(1, 10) = 4",
                "share(2, 10) = 6")
            .says("retry(0, 0, 9) = 0", "share(0, 10) = 0", "share(1, 1) = 1", "share(1, 10) = 4", "share(2, 10) = 6");
        Sentences.edge(PART, "(0, if none has any).");
        Run.of(Run.QUEUE).says("share(0, 0) = 0", "share(0, 999) = 0");
        Run.of("l1,60;j9,0;t0,9;").says("years(1) = 0", "share(0, 999) = 0");
        Limits.made(Limits.OUT).says("share(0, 999) = 0");
        // the only trust there is belongs to one who is out
        Run.of("l1,60;j0,0;t0,1;").says("years(1) = 0", "count(4) = 1", "share(0, 999) = 0");
    }

    private static void turns() {
        Sentences.edge(PART, "TURNS of two JUDGES, n in all (0 to 4), m YEARS (1 to 20):");
        Run even = Run.of("l1,60;j0,0;j0,0;t0,1;t1,1;");
        even.says("byTurns(0, 1, -1, 11) = BAD", "byTurns(0, 1, 0, 11) = 0", "byTurns(0, 1, 1, 11) = 5",
                "byTurns(0, 1, 2, 11) = 0", "byTurns(0, 1, 3, 11) = 5", "byTurns(0, 1, 4, 11) = 0",
                "byTurns(0, 1, 5, 11) = BAD")
            .says("byTurns(0, 1, 1, 0) = BAD", "byTurns(0, 1, 1, 1) = 0", "byTurns(0, 1, 1, 2) = 1",
                "byTurns(0, 1, 1, 20) = 5", "byTurns(0, 1, 1, 21) = BAD");
        Run.of("l1,60;j0,0;j9,0;t0,30;t1,30;").says("byTurns(0, 1, 0, 1) = 1", "byTurns(0, 1, 0, 19) = 19",
                "byTurns(0, 1, 0, 20) = 20", "byTurns(1, 0, 0, 20) = -20");
        Sentences.edge(PART, "the one gives a MAN of his who WAITS or lives BESIDE 5 YEARS more (30 at most),");
        // he has one year, or six, or eleven; with more than 25 he has 30, and 20 years do not tell these apart
        even.says("byTurns(0, 1, 1, 5) = 4", "byTurns(0, 1, 1, 6) = 5", "byTurns(0, 1, 1, 7) = 5",
                "byTurns(0, 1, 3, 10) = 4", "byTurns(0, 1, 3, 12) = 5");
        Run.of("l1,60;j0,0;j0,0;t0,25;t1,26;").says("byTurns(0, 1, 4, 20) = 0", "byTurns(1, 0, 3, 20) = 0");
        Run.of("l1,60;j0,0;j0,0;t0,30;t1,15;").says("byTurns(0, 1, 1, 20) = 5", "byTurns(0, 1, 2, 20) = 0",
                "byTurns(0, 1, 4, 20) = 0");
        // one beside can be given more, one who is out or settled cannot
        Run.of("l1,60;j0,0;j0,0;t0,2;t1,1;").says("years(1) = 0", "stand(1) = 1", "stand(2) = 2",
                "byTurns(0, 1, 1, 20) = 6", "byTurns(0, 1, 2, 20) = 6");
        Run.of("l1,1;j0,0;j0,0;t0,1;t1,2;").says("years(1) = 1", "stand(3) = 1", "byTurns(0, 1, 1, 20) = -1",
                "byTurns(0, 1, 2, 20) = -6");
        Sentences.edge(PART, "or does nothing, then the other one, and so on, all now;");
        // more years for the thief keep out the one wronged, who grows by 9
        Run.of("l1,60;j9,1;j0,0;t0,1;w0,9;").says("byTurns(0, 1, 0, 5) = 37", "byTurns(0, 1, 1, 5) = 37",
                "byTurns(0, 1, 3, 5) = 37", "byTurns(1, 0, 1, 5) = -37", "byTurns(1, 0, 2, 5) = -37");
        Limits.made(Limits.OUT).says("byTurns(0, 1, 4, 20) = 0");
        Sentences.edge(PART,
                "then m YEARS: TRUST of all MEN whose JUDGE the one is less that of those whose the other one is; the one wants it great, the other little: "
            + "what comes of it.");
        Run.of("l1,60;j0,0;j0,0;j0,0;t0,3;t0,3;t1,3;t2,9;").says("byTurns(0, 1, 0, 6) = 3", "byTurns(1, 0, 0, 6) = -3",
                "byTurns(0, 2, 0, 6) = 0", "byTurns(2, 1, 0, 9) = 6");
    }

    private static void promises19To21() {
        Sentences.edge("promise 19",
                "int ahead(int man, int n, int what): AHEAD: TRUST (what = 0), how he is (1), YEARS (2). BAD.");
        Limits.of(19);
        Run.fresh().says("ahead(0, 0, 0) = BAD");
        Sentences.edge("promise 20", "int by(int judge, int n): BY; NONE. BAD.");
        Limits.of(20);
        Run.fresh().says("by(0, 0) = BAD");
        Run.of(Run.QUEUE).says("by(0, 0) = NONE", "by(0, 1) = 0", "by(1, 0) = BAD");
        Sentences.edge("promise 21", "int when(int man, int how): WHEN; NONE. BAD.");
        Limits.of(21);
        Run.fresh().says("when(0, 1) = BAD");
        Run.of(Run.QUEUE).says("when(2, 1) = NONE", "when(2, 2) = 6", "when(3, 1) = BAD");
    }

    private static void promises22To24() {
        Sentences.edge("promise 22",
                "int sending(int n, int man): SEND: how many (man = -1), the JUDGE of a MAN (0 on). BAD: no such MAN, man below -1, too;");
        Limits.of(22);
        Run.of(TWO).says("sending(2, -1) = 2", "sending(2, 0) = 0", "sending(2, 1) = 1", "sending(2, 2) = BAD",
                "sending(2, -2) = BAD", "sending(2, MIN) = BAD", "sending(2, MAX) = BAD");
        Sentences.edge("promise 22", "STATE: no CIRCUIT (ahead of BAD).");
        Run.fresh().says("sending(1, -1) = STATE", "sending(0, -1) = STATE", "sending(31, 0) = STATE",
                "sending(1, -2) = STATE", "sending(1, 0) = STATE");
        Sentences.edge("promise 23", "int gates(int n, int what): GATES: which (what = 0), how much (1). BAD;");
        Limits.of(23);
        Sentences.edge("promise 23", "STATE: no CIRCUIT (ahead of BAD).");
        Run.fresh().says("gates(1, 0) = STATE", "gates(0, 0) = STATE", "gates(31, 0) = STATE", "gates(1, 2) = STATE",
                "gates(1, -1) = STATE");
        Sentences.edge("promise 24", "int let(int n, int what): LET: how many (what = 0), which (1). BAD;");
        Limits.of(24);
        Sentences.edge("promise 24", "STATE: no CIRCUIT (ahead of BAD).");
        Run.fresh().says("let(1, 0) = STATE", "let(0, 0) = STATE", "let(31, 0) = STATE", "let(1, 2) = STATE",
                "let(1, -1) = STATE");
    }

    private static void promises25To27() {
        Sentences.edge("promise 25",
                "int closest(int judge, int what): CLOSEST: which (what = 0), how much (1); NONE. BAD.");
        Limits.of(25);
        Run.fresh().says("closest(0, 0) = BAD");
        Run.of("l1,60;j0,0;j0,0;t1,9;").says("closest(0, 0) = NONE", "closest(0, 1) = NONE", "closest(1, 0) = 0",
                "closest(1, 1) = 0", "closest(0, 2) = BAD");
        Sentences.edge("promise 26", "int share(int man, int n): SHARE. BAD.");
        Limits.of(26);
        Run.fresh().says("share(0, 0) = BAD");
        Sentences.edge("promise 27", "int byTurns(int judge, int other, int n, int m): TURNS. BAD: alike, too.");
        Limits.of(27);
        Run.of(TWO).says("byTurns(0, 0, 1, 1) = BAD", "byTurns(1, 1, 1, 1) = BAD", "byTurns(0, 1, 1, 1) = 1",
                "byTurns(0, 2, 1, 1) = BAD", "byTurns(2, 0, 1, 1) = BAD");
        Run.fresh().says("byTurns(0, 1, 0, 1) = BAD");
    }
}
