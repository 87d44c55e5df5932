/** Years and acts: part 2, and promises 9 to 18. */
final class ActEdges {
    private static final String PART = "part 2";

    private ActEdges() {
    }

    static void all() {
        forGood();
        roomForOne();
        leastNumber();
        mostTrust();
        thieves();
        lifers();
        singers();
        wrongedAndBoys();
        yearsLess();
        settledOrOut();
        acts();
        promise9();
        promise10();
        promises11And12();
        promises13And14();
        promise15();
        promise16();
        promises17And18();
    }

    private static void forGood() {
        Sentences.edge(PART,
                "A MAN WAITS for his JUDGE, lives BESIDE him, is OUT, or has SETTLED (BESIDE him, for good).");
        Run.of("l4,4;j0,0;t0,2;t0,9;").says("man(0, 1) = 0", "years(1) = 0", "man(0, 1) = 1", "years(1) = 1",
                "man(0, 1) = 3", "years(24) = 1")
            .says("man(0, 1) = 3", "man(0, 3) = 8", "man(0, 2) = 0", "ahead(0, 60, 1) = 3", "ahead(0, 60, 0) = 8",
                "by(0, 60) = 0", "when(0, 2) = NONE");
        Run.of(Run.QUEUE).says("years(2) = 0", "man(0, 1) = 2", "years(24) = 0", "man(0, 1) = 2", "man(0, 3) = 2",
                "man(0, 0) = 0");
    }

    private static void roomForOne() {
        Sentences.edge(PART, "By a JUDGE there is room for one: who lives BESIDE him, or has SETTLED there.");
        Run.of(Run.QUEUE).says("years(1) = 0", "stand(1) = 1", "stand(0) = 6", "judge(0, 2) = 0", "judge(0, 3) = 6",
                "man(1, 3) = 0", "man(1, 2) = 3");
        Run.of("l5,1;j0,0;t0,1;t0,1;").says("years(1) = 1", "judge(0, 2) = 0", "years(24) = 1", "stand(0) = 2",
                "man(1, 3) = 0", "man(1, 2) = 1");
        // one for life keeps his half
        Run.of("l5,1;j0,0;f0,1;t0,1;").says("years(24) = 0", "stand(1) = 1", "stand(0) = 2");
    }

    private static void leastNumber() {
        Sentences.edge(PART,
                "A YEAR: JUDGE by JUDGE: if there is nobody by him, the MAN of the least number who WAITS for him lives "
            + "BESIDE him from now on.");
        Run.of(Run.QUEUE).says("by(0, 0) = NONE", "years(1) = 0", "judge(0, 2) = 0", "years(1) = 0",
                "judge(0, 2) = NONE", "years(1) = 0", "judge(0, 2) = 1");
        // tried again, the first is ahead of the others once more
        Run.of(Run.QUEUE).says("years(2) = 0", "retry(0, 0, 9) = 0", "years(1) = 0", "judge(0, 2) = 0",
                "judge(0, 3) = 6");
        // each judge takes his own, whatever the order of the men
        Run.of("l1,60;j0,0;j0,0;j0,0;t2,9;t1,9;t1,9;t0,9;").says("years(1) = 0", "judge(0, 2) = 3", "judge(1, 2) = 1",
                "judge(2, 2) = 0", "stand(0) = 4");
        // nobody waits for the second
        Run.of("l1,60;j0,0;j0,0;t0,9;").says("years(1) = 0", "judge(1, 2) = NONE", "judge(1, 3) = 0");
    }

    private static void mostTrust() {
        Sentences.edge(PART, "Then MAN by MAN who lives BESIDE his JUDGE: TRUST is more (99 at most):");
        Run.of("l1,60;j0,0;f0,1;").does("years(24)", "years(24)", "years(24)", "years(24)").says("man(0, 3) = 96",
                "years(2) = 0", "man(0, 3) = 98")
            .says("years(1) = 0", "man(0, 3) = 99", "years(1) = 0", "man(0, 3) = 99", "ahead(0, 60, 0) = 99");
        // nine a year come to 99 as it is, ten would come to 100
        Run.of("l1,60;j9,1;w0,30;").says("years(10) = 0", "man(0, 3) = 90", "years(1) = 0", "man(0, 3) = 99",
                "years(1) = 0", "man(0, 3) = 99");
        Run.of("l9,60;j0,1;t0,30;").says("years(9) = 0", "man(0, 3) = 90", "years(1) = 0", "man(0, 3) = 99",
                "count(4) = 99");
        Run.of(Run.QUEUE).says("years(1) = 0", "man(1, 3) = 0", "man(2, 3) = 0");
    }

    private static void thieves() {
        Sentences.edge(PART,
                "of a thief by BEANS less a third of SEVERE (cut; 0 at least), and 1 if the GATE is open;");
        int[] thirds = {0, 0, 0, 1, 1, 1, 2, 2, 2, 3};
        for (int severe = 0; severe <= 9; severe++) {
            int grows = Math.max(0, 2 - thirds[severe]);
            for (int open = 0; open <= 1; open++) {
                Run.of("l2,60;j" + severe + "," + open + ";t0,9;")
                    .says("man(0, 4) = " + (grows + open), "years(1) = 0", "man(0, 3) = " + (grows + open));
            }
        }
        Run.of("l1,60;j9,0;t0,30;").says("man(0, 4) = 0", "years(24) = 0", "man(0, 3) = 0", "gate(0, 1) = 0",
                "man(0, 4) = 1", "years(1) = 0", "man(0, 3) = 1");
        Run.of("l9,60;j0,1;t0,30;").says("man(0, 4) = 10");
    }

    private static void lifers() {
        Sentences.edge(PART, "of one for life as of a thief;");
        Run.of("l2,60;j9,0;f0,9;").says("man(0, 4) = 0", "gate(0, 1) = 0", "man(0, 4) = 1", "severe(0, 5) = 9",
                "man(0, 4) = 2", "years(1) = 0", "man(0, 3) = 2");
        Run.of("l2,60;j2,1;f0,9;").says("man(0, 4) = 3", "years(1) = 0", "man(0, 4) = 3", "years(1) = 0",
                "man(0, 3) = 6");
    }

    private static void singers() {
        Sentences.edge(PART, "of one who sings so, twice that in YEARS that are odd;");
        Run.of("l2,60;j3,1;s0,9;").says("man(0, 4) = 2", "years(1) = 0", "man(0, 3) = 2", "man(0, 4) = 4",
                "years(1) = 0", "man(0, 3) = 6", "man(0, 4) = 2");
        Run.of("l1,60;j9,0;s0,9;").says("man(0, 4) = 0", "years(1) = 0", "man(0, 4) = 0");
        // years beyond 999 are foretold: they are odd and even in turn as ever
        Run late = late(Run.of("l1,60;j0,0;s0,1;"), 999).says("man(0, 3) = 1", "man(0, 1) = 2", "man(0, 4) = 2");
        late.says("retry(0, 0, 30) = 0", "ahead(0, 1, 0) = 3", "ahead(0, 2, 0) = 4", "ahead(0, 3, 0) = 6",
                "undo() = 23", "undo() = 22", "man(0, 4) = 1");
    }

    /** The same object in another year; what comes of it is not looked at. */
    private static Run late(Run run, int year) {
        for (int now = 0; now < year; now += 24) {
            run.does("years(" + Math.min(24, year - now) + ")");
        }
        return run.says("count(3) = " + year);
    }

    private static void wrongedAndBoys() {
        Sentences.edge(PART, "of one wronged by SEVERE, if the GATE is open, else by nothing;");
        Run.of("l9,60;j0,1;w0,30;").says("man(0, 4) = 0", "severe(0, 9) = 0", "man(0, 4) = 9", "gate(0, 0) = 1",
                "man(0, 4) = 0", "years(9) = 0", "man(0, 3) = 0")
            .says("gate(0, 1) = 0", "years(1) = 0", "man(0, 3) = 9");
        Sentences.edge(PART, "of a boy by what one wronged would, and 1.");
        Run.of("l9,60;j0,1;b0,30;").says("man(0, 4) = 1", "severe(0, 9) = 0", "man(0, 4) = 10", "gate(0, 0) = 1",
                "man(0, 4) = 1", "years(9) = 0", "man(0, 3) = 9")
            .says("gate(0, 1) = 0", "years(1) = 0", "man(0, 3) = 19");
    }

    private static void yearsLess() {
        Sentences.edge(PART, "YEARS that he has yet are 1 less, but not of one for life.");
        Run.of("l1,60;j0,0;t0,30;").says("years(1) = 0", "man(0, 2) = 29", "years(24) = 0", "man(0, 2) = 5",
                "years(4) = 0", "man(0, 2) = 1", "man(0, 1) = 1", "years(1) = 0")
            .says("man(0, 2) = 0", "man(0, 1) = 2", "years(1) = 0", "man(0, 2) = 0");
        Run.of("l1,1;j0,0;f0,1;").says("years(24) = 0", "man(0, 2) = 1", "man(0, 1) = 1", "sentence(0, 30) = 1",
                "years(24) = 0", "man(0, 2) = 30");
        Run.of(Run.QUEUE).says("years(1) = 0", "man(1, 2) = 3", "man(2, 2) = 1");
    }

    private static void settledOrOut() {
        Sentences.edge(PART, "With none left he has SETTLED, if TRUST is LIKE or more, else he is OUT.");
        Run.of("l2,3;j0,0;t0,2;").says("years(1) = 0", "man(0, 1) = 1", "years(1) = 1", "man(0, 3) = 4",
                "man(0, 1) = 3");
        Run.of("l2,4;j0,0;t0,2;").says("years(1) = 0", "man(0, 1) = 1", "years(1) = 1", "man(0, 3) = 4",
                "man(0, 1) = 3");
        Run.of("l2,5;j0,0;t0,2;").says("years(1) = 0", "man(0, 1) = 1", "years(1) = 0", "man(0, 3) = 4",
                "man(0, 1) = 2");
        Run.of("l1,1;j9,0;t0,1;").says("years(1) = 0", "man(0, 1) = 2");
        Run.of("l1,1;j0,0;t0,1;").says("years(1) = 1", "man(0, 1) = 3");
        Run.of("l2,60;j0,0;t0,30;").says("years(24) = 0", "years(6) = 1", "man(0, 3) = 60");
        // enough trust does not settle him ahead of his time
        Run.of("l9,1;j0,0;t0,3;").says("years(2) = 0", "man(0, 1) = 1", "years(1) = 1");
        Sentences.edge(PART, "YEAR is 1 more.");
        late(Run.of(Run.QUEUE).says("count(3) = 0", "years(1) = 0", "count(3) = 1", "undo() = 0"), 999)
            .says("years(1) = FULL", "count(3) = 999");
    }

    private static void acts() {
        Sentences.edge(PART, "ACTS (24 at most are kept, of more the oldest is forgotten;");
        for (int acts = 22; acts <= 50; acts++) {
            Run run = Run.of("l1,60;j0,0;f0,1;");
            for (int i = 1; i <= acts; i++) {
                run.does("severe(0, " + i % 10 + ")");
            }
            int kept = Math.min(24, acts);
            run.says("count(6) = " + kept);
            for (int left = kept - 1; left >= 0; left--) {
                run.says("undo() = " + left, "judge(0, 0) = " + (acts - kept + left) % 10);
            }
            run.says("undo() = STATE", "count(6) = 0", "severe(0, 7) = " + (acts - kept) % 10, "count(6) = 1",
                    "undo() = 0");
        }
        Sentences.edge(PART, "each can be undone, the latest first):");
        Run.of(Run.QUEUE).says("severe(0, 3) = 0", "gate(0, 1) = 0", "undo() = 1", "judge(0, 1) = 0", "judge(0, 0) = 3",
                "undo() = 0", "judge(0, 0) = 0", "undo() = STATE");
        Sentences.edge(PART,
                "a YEAR; a MAN who WAITS is sent to another JUDGE; YEARS of one who WAITS or lives BESIDE his JUDGE are others; "
            + "a GATE is opened, or shut; SEVERE of a JUDGE is another; one who is OUT is tried again");
        Run.of("l1,60;j0,0;j5,0;t0,1;t0,9;t0,9;").says("years(1) = 0", "send(1, 1) = 0", "sentence(2, 7) = 9",
                "gate(0, 1) = 0", "gate(0, 0) = 1", "severe(1, 6) = 5")
            .says("retry(0, 1, 4) = 0", "years(1) = 0", "sentence(0, 8) = 3", "count(6) = 9")
            .says("undo() = 8", "man(0, 2) = 3", "undo() = 7", "man(0, 1) = 0", "man(0, 2) = 4", "undo() = 6",
                "man(0, 1) = 2", "man(0, 0) = 0", "man(0, 2) = 0")
            .says("undo() = 5", "judge(1, 0) = 5", "undo() = 4", "judge(0, 1) = 1", "undo() = 3", "judge(0, 1) = 0",
                "undo() = 2", "man(2, 2) = 9")
            .says("undo() = 1", "man(1, 0) = 0", "undo() = 0", "count(3) = 0", "man(0, 1) = 0", "man(0, 2) = 1",
                "man(0, 3) = 0");
        // a call that is not refused is an act, also if all is as it was (NOTES.md)
        Run.of(Run.QUEUE).says("send(0, 0) = 0", "count(6) = 1", "sentence(0, 2) = 2", "count(6) = 2",
                "gate(0, 0) = 0", "count(6) = 3", "severe(0, 0) = 0", "count(6) = 4", "undo() = 3");
        Sentences.edge(PART, "(he WAITS for a JUDGE, with so many YEARS, his TRUST stays).");
        Run.of("l1,60;j0,0;j5,0;t0,5;").says("years(5) = 0", "man(0, 1) = 2", "retry(0, 1, 30) = 0", "man(0, 0) = 1",
                "man(0, 1) = 0", "man(0, 2) = 30", "man(0, 3) = 5")
            .says("years(1) = 0", "man(0, 3) = 5", "severe(1, 2) = 5", "years(1) = 0", "man(0, 3) = 6");
    }

    private static void promise9() {
        Sentences.edge("promise 9", "int undo(): The latest ACT is undone: how many can be undone yet.");
        Run.of(Run.MANY).says("years(24) = 9", "undo() = 23", "count(3) = 23", "gate(0, 0) = 1", "undo() = 23",
                "judge(0, 1) = 1", "undo() = 22", "count(3) = 22");
        Sentences.edge("promise 9", "STATE: none.");
        Run.fresh().says("undo() = STATE");
        Run.of(Run.MANY).says("undo() = STATE", "years(1) = 0", "undo() = 0", "undo() = STATE", "count(3) = 0")
            .says("years(25) = BAD", "send(9, 9) = BAD", "undo() = STATE", "image(0) = 1", "gate(0, 0) = 1",
                "restore(0) = 1", "undo() = STATE");
    }

    private static void promise10() {
        Sentences.edge("promise 10", "int years(int n): n YEARS (1 to 24), an ACT each: who has SETTLED then (bits).");
        Limits.of(10);
        Run.of(Run.MANY).says("years(1) = 0", "count(6) = 1", "years(2) = 9", "count(6) = 3", "count(3) = 3",
                "years(24) = 9", "count(6) = 24", "count(3) = 27");
        Sentences.edge("promise 10", "BAD;");
        Run.of(Run.MANY).says("years(0) = BAD", "years(25) = BAD", "years(-1) = BAD", "years(MIN) = BAD",
                "years(MAX) = BAD", "count(3) = 0", "count(6) = 0");
        Sentences.edge("promise 10", "STATE: no CIRCUIT (ahead of BAD);");
        Run.fresh().says("years(1) = STATE", "years(0) = STATE", "years(25) = STATE", "count(3) = 0");
        Sentences.edge("promise 10", "FULL: YEAR would be above 999.");
        late(Run.of(Run.QUEUE), 975).says("years(24) = 0", "count(3) = 999", "years(1) = FULL", "years(24) = FULL",
                "undo() = 23", "years(2) = FULL", "years(1) = 0");
        late(Run.of(Run.QUEUE), 976).says("years(24) = FULL", "count(3) = 976", "count(6) = 24", "years(23) = 0",
                "count(3) = 999");
    }

    private static void promises11And12() {
        Sentences.edge("promise 11", "int send(int man, int judge): Sent to a JUDGE: whom he WAITED for.");
        Run.of(Run.MANY).says("send(0, 2) = 0", "send(0, 1) = 2", "send(0, 1) = 1", "man(0, 0) = 1", "judge(1, 3) = 35",
                "count(6) = 3");
        Sentences.edge("promise 11", "BAD; STATE: he does not WAIT.");
        Limits.of(11);
        Run.of("l4,4;j0,0;j9,0;t0,1;f0,9;w1,1;t0,9;").says("years(2) = 1", "stand(3) = 1", "stand(0) = 10",
                "stand(2) = 4").says("send(0, 1) = STATE", "send(2, 0) = STATE", "send(1, 1) = 0")
            .says("years(1) = 1", "stand(1) = 2", "send(1, 0) = STATE", "send(3, 2) = BAD", "send(4, 0) = BAD",
                "send(0, 2) = BAD");
        Run.fresh().says("send(0, 0) = BAD");
        Sentences.edge("promise 12",
                "int sentence(int man, int years): YEARS that he has yet (1 to 30): how many he had.");
        Limits.of(12);
        Run.of(Run.QUEUE).says("sentence(0, 30) = 2", "sentence(0, 1) = 30", "sentence(0, 0) = BAD",
                "sentence(0, 31) = BAD", "man(0, 2) = 1", "sentence(1, 30) = 3")
            .says("sentence(0, 2) = 1", "years(1) = 0", "sentence(0, 1) = 1", "years(1) = 0", "man(0, 1) = 2");
        Sentences.edge("promise 12", "BAD; STATE: he is OUT, or has SETTLED.");
        Run.of(Run.QUEUE).says("years(2) = 0", "sentence(0, 5) = STATE", "sentence(0, 31) = BAD",
                "sentence(0, 0) = BAD", "sentence(3, 5) = BAD", "man(0, 2) = 0");
        Run.of("l4,4;j0,0;t0,1;").says("years(1) = 1", "sentence(0, 5) = STATE", "man(0, 2) = 0");
        Run.fresh().says("sentence(0, 1) = BAD");
    }

    private static void promises13And14() {
        Sentences.edge("promise 13", "int gate(int judge, int open): A GATE is open (1), shut (0): what it was.");
        Run.of(Run.MANY).says("gate(0, 1) = 1", "gate(0, 0) = 1", "gate(0, 0) = 0", "gate(0, 1) = 0", "judge(0, 1) = 1",
                "judge(1, 1) = 0");
        Sentences.edge("promise 13", "BAD.");
        Limits.of(13);
        Run.fresh().says("gate(0, 0) = BAD", "gate(0, 2) = BAD");
        Sentences.edge("promise 14", "int severe(int judge, int v): SEVERE (0 to 9): what it was.");
        Run.of(Run.MANY).says("severe(2, 0) = 9", "severe(2, 9) = 0", "severe(2, 10) = BAD", "severe(2, -1) = BAD",
                "judge(2, 0) = 9", "judge(1, 0) = 2");
        Sentences.edge("promise 14", "BAD.");
        Limits.of(14);
        Run.fresh().says("severe(0, 0) = BAD");
    }

    private static void promise15() {
        Sentences.edge("promise 15",
                "int retry(int man, int judge, int years): Tried again by a JUDGE, for YEARS (1 to 30): who is OUT then (bits).");
        Limits.of(15);
        Limits.made(Limits.OUT).says("retry(5, 2, 30) = 31", "retry(0, 0, 1) = 30", "man(5, 2) = 30", "man(5, 0) = 2",
                "retry(1, 0, 0) = BAD", "retry(1, 0, 31) = BAD", "stand(2) = 30");
        Sentences.edge("promise 15", "BAD; STATE: he is not OUT.");
        Run.of("l4,4;j0,0;j9,0;t0,1;f1,9;t0,9;").says("years(1) = 1", "retry(0, 0, 1) = STATE",
                "retry(1, 0, 1) = STATE", "retry(2, 0, 1) = STATE")
            .says("retry(0, 2, 1) = BAD", "retry(3, 0, 1) = BAD", "retry(0, 0, 31) = BAD");
        Run.fresh().says("retry(0, 0, 1) = BAD");
        Limits.made(Limits.OUT).says("retry(3, 1, 2) = 55", "retry(3, 1, 2) = STATE");
    }

    private static void promise16() {
        Sentences.edge("promise 16",
                "int man(int man, int what): Of a MAN: 0 his JUDGE, 1 how he is (0 WAITS, 1 BESIDE, 2 OUT, 3 SETTLED), 2 YEARS that he has "
            + "yet (0: OUT, SETTLED), 3 TRUST,");
        Limits.made(Limits.MIXED).says("man(0, 1) = 3", "man(1, 1) = 1", "man(2, 1) = 0", "man(3, 1) = 2",
                "man(4, 1) = 1", "man(5, 1) = 0")
            .says("man(0, 2) = 0", "man(1, 2) = 5", "man(2, 2) = 4", "man(3, 2) = 0", "man(4, 2) = 5", "man(5, 2) = 1")
            .says("man(0, 3) = 9", "man(1, 3) = 12", "man(2, 3) = 0", "man(3, 3) = 0", "man(4, 3) = 1", "man(5, 3) = 0")
            .says("man(0, 0) = 0", "man(1, 0) = 1", "man(3, 0) = 2", "man(5, 0) = 1");
        Sentences.edge("promise 16", "4 by how much TRUST would be more, did he live BESIDE his JUDGE in this YEAR.");
        // whoever he is now: settled, beside, waits, out; the year is odd
        Limits.made(Limits.MIXED).says("man(0, 4) = 2", "man(1, 4) = 3", "man(2, 4) = 4", "man(3, 4) = 0",
                "man(4, 4) = 1", "man(5, 4) = 3");
        // what a year gives by itself, as the growth is told, though trust is 99 at most (NOTES.md)
        Run.of("l9,60;j0,1;f0,1;").says("years(9) = 0", "man(0, 3) = 90", "man(0, 4) = 10", "years(1) = 0",
                "man(0, 3) = 99", "man(0, 4) = 10");
        Sentences.edge("promise 16", "BAD.");
        Limits.of(16);
        Run.fresh().says("man(0, 0) = BAD", "man(0, 4) = BAD");
    }

    private static void promises17And18() {
        Sentences.edge("promise 17",
                "int judge(int judge, int what): Of a JUDGE: 0 SEVERE, 1 GATE, 2 who lives BESIDE him or has SETTLED there (NONE), 3 MEN who WAIT for him (bits).");
        Limits.made(Limits.MIXED).says("judge(0, 2) = 0", "judge(1, 2) = 1", "judge(2, 2) = 4", "judge(0, 3) = 4",
                "judge(1, 3) = 32", "judge(2, 3) = 0")
            .says("judge(0, 0) = 6", "judge(0, 1) = 0", "judge(1, 0) = 5", "judge(2, 0) = 9");
        Limits.made(Limits.OUT).says("judge(0, 2) = NONE", "judge(0, 3) = 0");
        Limits.made(Limits.FRESH).says("judge(0, 2) = NONE", "judge(0, 3) = 5");
        Sentences.edge("promise 17", "BAD.");
        Limits.of(17);
        Run.fresh().says("judge(0, 0) = BAD");
        Sentences.edge("promise 18",
                "int stand(int what): 0 who WAITS (bits), 1 BESIDE, 2 OUT, 3 SETTLED, 4 BEANS, 5 LIKE.");
        Limits.made(Limits.MIXED).says("stand(0) = 36", "stand(1) = 18", "stand(2) = 8", "stand(3) = 1", "stand(4) = 4",
                "stand(5) = 9");
        Limits.made(Limits.FRESH).says("stand(0) = 63", "stand(1) = 0", "stand(2) = 0", "stand(3) = 0");
        Sentences.edge("promise 18", "BAD;");
        Limits.of(18);
        Sentences.edge("promise 18", "STATE: no CIRCUIT (ahead of BAD).");
        Run.fresh().says("stand(0) = STATE", "stand(5) = STATE", "stand(6) = STATE", "stand(-1) = STATE");
    }
}
