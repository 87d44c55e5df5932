/** What fits to a row, fences and draws: the rest of part 3, and promises 28 to 32. */
final class FitEdges {
    private static final String PART = "part 3";
    /** A thief or one for life grows 3 - 1 + 1, one wronged 4, a boy 5. */
    private static final String ONE = "l3,60;j4,1;j0,0;t0,9;";

    private FitEdges() {
    }

    static void all() {
        rows();
        kinds();
        trusts();
        severes();
        likes();
        fences();
        decades();
        tree();
        promises28To30();
        promises31And32();
    }

    private static void rows() {
        Sentences.edge(PART, "A row tells TRUST of a MAN behind each of n YEARS (1 to 12) from now on.");
        Run run = Run.of(ONE).told(0, 3, 6, 9, 12, 15, 18, 21, 24, 27, 27, 27, 27, 5);
        run.says("who(0, 0, 0, 0, 0) = BAD", "who(0, 0, 0, 0, 1) = 14", "who(0, 0, 0, 0, 2) = 6",
                "who(0, 0, 0, 0, 9) = 6", "who(0, 0, 0, 0, 10) = 2", "who(0, 0, 0, 0, 12) = 2",
                "who(0, 0, 0, 0, 13) = BAD")
            .says("who(0, 0, 0, 1, 12) = 0").told(1, 6, 9, 12, 15, 18, 21, 24, 27, 27, 27, 27, 28)
            .says("who(0, 2, 1, 0, 11) = NONE", "years(1) = 0", "who(0, 2, 1, 0, 11) = 3",
                "who(0, 2, 1, 0, 12) = NONE");
        // a waiting man, from places in the midst of a row of bytes
        Run.of(Run.QUEUE).says("row(2, 0, 14) = 14", "set(2, 4, 1) = 1", "set(2, 5, 2) = 2", "set(2, 6, 3) = 3",
                "who(1, 0, 2, 2, 5) = 38", "who(1, 0, 2, 2, 4) = 38", "who(1, 0, 2, 2, 3) = 46");
    }

    private static void kinds() {
        Sentences.edge(PART, "KINDS (bits 1 to 5),");
        Run.of(ONE).told(0, 3, 6).told(1, 3, 9).told(2, 4, 8).told(3, 5, 10).told(4, 7)
            .says("who(0, 0, 0, 0, 2) = 6", "who(0, 0, 1, 0, 2) = 8", "who(0, 0, 2, 0, 2) = 16",
                "who(0, 0, 3, 0, 2) = 32", "who(0, 0, 4, 0, 1) = 0", "who(0, 0, 0, 0, 1) = 14");
        // whoever is out, settled or waits for good may be of any kind
        Limits.made(Limits.OUT).told(0, 0, 0, 0).says("who(0, 0, 0, 0, 3) = 62");
        Limits.made(Limits.MIXED).told(0, 9, 9).told(1, 0, 0).says("who(0, 0, 0, 0, 2) = 62",
                "who(2, 0, 1, 0, 2) = 62");
        // in his last year only one for life goes on
        Run.of("l3,60;j4,1;t0,2;").told(0, 3, 6, 9).told(1, 3, 6, 6).says("who(0, 0, 0, 0, 3) = 4",
                "who(0, 0, 1, 0, 3) = 2");
    }

    private static void trusts() {
        Sentences.edge(PART, "TRUSTS (0 to 99: how many; the least; NONE) of him now, by which it is so.");
        Run.of(ONE).told(0, 3).told(1, 2).told(2, 99).told(3, 98, 99).told(4, 100).told(5, 99, 99).told(6, -1)
            .says("who(0, 1, 0, 0, 1) = 1", "who(0, 2, 0, 0, 1) = 0", "who(0, 1, 1, 0, 1) = 0",
                "who(0, 2, 1, 0, 1) = NONE", "who(0, 1, 2, 0, 1) = 4", "who(0, 2, 2, 0, 1) = 96")
            .says("who(0, 1, 3, 0, 2) = 1", "who(0, 2, 3, 0, 2) = 95", "who(0, 1, 4, 0, 1) = 0",
                "who(0, 2, 4, 0, 1) = NONE", "who(0, 1, 5, 0, 2) = 4", "who(0, 2, 5, 0, 2) = 96")
            .says("who(0, 1, 6, 0, 1) = 0", "who(0, 2, 6, 0, 1) = NONE");
        Run.of("l9,60;j0,1;t0,9;").told(0, 99).told(1, 10).says("who(0, 1, 0, 0, 1) = 11", "who(0, 2, 0, 0, 1) = 89",
                "who(0, 1, 1, 0, 1) = 1", "who(0, 2, 1, 0, 1) = 0");
        // trust that stays is told as it is, from 0 to 99
        Limits.made(Limits.OUT).told(0, 0).told(1, 99).told(2, 100).says("who(0, 2, 0, 0, 1) = 0",
                "who(0, 1, 0, 0, 1) = 1", "who(0, 2, 1, 0, 1) = 99", "who(0, 1, 1, 0, 1) = 1",
                "who(0, 2, 2, 0, 1) = NONE", "who(0, 1, 2, 0, 1) = 0");
    }

    private static void severes() {
        Sentences.edge(PART, "SEVERES (0 to 9, bits) of a JUDGE;");
        Run.of(ONE).told(0, 4).told(1, 3).told(2, 1).told(3, 5).told(4, 0)
            .says("severes(0, 0, 0, 0, 1) = 7", "severes(0, 0, 1, 0, 1) = 56", "severes(0, 0, 2, 0, 1) = 512",
                "severes(0, 0, 3, 0, 1) = 0", "severes(0, 0, 4, 0, 1) = 0", "severes(1, 0, 1, 0, 1) = 1023",
                "severes(1, 0, 0, 0, 1) = 0");
        Run.of("l3,60;j4,1;w0,9;").told(0, 0, 0).told(1, 9, 18).told(2, 10).says("severes(0, 0, 0, 0, 2) = 1",
                "severes(0, 0, 1, 0, 2) = 512", "severes(0, 0, 2, 0, 1) = 0");
        Limits.made(Limits.OUT).told(0, 0).says("severes(0, 0, 0, 0, 1) = 1023", "severes(2, 0, 0, 0, 1) = 1023");
    }

    private static void likes() {
        Sentences.edge(PART, "LIKES (1 to 60: how many; the least; NONE) by which it is so.");
        // the first has 1 trust in the end: he settles by a like of 1, and the other one waits for good
        Run.of("l1,60;j0,0;t0,1;t0,9;").told(0, 0, 0).told(1, 0, 1).told(2, 1)
            .says("likes(1, 0, 0, 0, 2) = 1", "likes(1, 1, 0, 0, 2) = 1", "likes(1, 0, 1, 0, 2) = 59",
                "likes(1, 1, 1, 0, 2) = 2", "likes(1, 0, 2, 0, 1) = 0", "likes(1, 1, 2, 0, 1) = NONE")
            .says("likes(0, 0, 2, 0, 1) = 60", "likes(0, 1, 2, 0, 1) = 1");
        // with 59 in the end he is out by a like of 60 alone
        Run.of("l1,60;j0,0;j0,0;t0,30;f1,1;t1,9;").says("years(24) = 0", "years(6) = 0", "retry(0, 0, 30) = 0",
                "years(24) = 0", "years(4) = 0", "man(0, 3) = 58", "send(2, 0) = 1", "sentence(0, 1) = 2")
            .told(0, 0, 1).told(1, 0, 0).says("likes(2, 0, 0, 0, 2) = 1", "likes(2, 1, 0, 0, 2) = 60",
                "likes(2, 0, 1, 0, 2) = 59", "likes(2, 1, 1, 0, 2) = 1");
    }

    private static void fences() {
        Sentences.edge(PART, "FENCE by p of 10 (0 to 10):");
        Run one = Run.of("l3,3;j0,0;t0,1;");
        for (int p = 0; p <= 10; p++) {
            int divisor = p == 0 || p == 10 ? 10 : p == 5 ? 5 : p % 2 == 0 ? 2 : 1;
            one.says("fence(0, 1, " + p + ", 0) = " + (10 - p) / divisor,
                    "fence(0, 1, " + p + ", 1) = " + 10 / divisor);
        }
        one.says("fence(0, 1, -1, 0) = BAD", "fence(0, 1, 11, 0) = BAD");
        Sentences.edge(PART, "in each of n YEARS (0 to 8)");
        one.says("fence(0, 0, 0, 0) = 0", "fence(0, 0, 0, 1) = 1", "fence(0, 1, 0, 0) = 1", "fence(0, 1, 0, 1) = 1",
                "fence(0, 8, 0, 0) = 1");
        Run.of("l3,24;j4,1;t0,8;").says("fence(0, -1, 1, 0) = BAD", "fence(0, 0, 1, 0) = 0", "fence(0, 0, 1, 1) = 1",
                "fence(0, 7, 1, 0) = 0", "fence(0, 7, 1, 1) = 1", "fence(0, 9, 1, 0) = BAD")
            .says("fence(0, 8, 1, 0) = 43046721", "fence(0, 8, 1, 1) = 100000000", "fence(0, 8, 9, 0) = 1",
                "fence(0, 8, 9, 1) = 100000000", "fence(0, 8, 5, 0) = 1", "fence(0, 8, 5, 1) = 256");
        Run.of("l3,1;j0,0;t0,1;").says("years(1) = 1", "fence(0, 0, 10, 0) = 1", "fence(0, 0, 10, 1) = 1",
                "fence(0, 8, 10, 0) = 1", "fence(0, 8, 10, 1) = 1");
        Sentences.edge(PART,
                "fences are mended (no TRUST is more in it, all else goes as always) in p of 10 cases, apart:");
        // the second year of a singer gives enough by itself; the years go on if the fences are mended
        Run.of("l1,2;j0,0;s0,2;").says("fence(0, 2, 3, 0) = 7", "fence(0, 2, 3, 1) = 10", "fence(0, 3, 3, 0) = 7",
                "fence(0, 1, 3, 0) = 0");
        Run.of("l1,1;j0,0;t0,2;").says("fence(0, 2, 5, 0) = 3", "fence(0, 2, 5, 1) = 4", "fence(0, 2, 1, 0) = 99",
                "fence(0, 2, 1, 1) = 100");
        // the other one comes in if the first is out, which he is if fences are mended
        Run.of("l1,1;j0,0;t0,1;t0,1;").says("fence(1, 2, 1, 0) = 9", "fence(1, 2, 1, 1) = 100", "fence(1, 1, 1, 0) = 0",
                "fence(1, 1, 1, 1) = 1");
        // trust that was there ahead of it is kept
        Run.of("l3,3;j0,0;t0,2;").says("years(1) = 0", "fence(0, 1, 10, 0) = 1", "fence(0, 1, 10, 1) = 1");
        Sentences.edge(PART, "how likely a MAN has SETTLED behind them: a fraction.");
        Run.of("l1,2;j0,0;t0,3;f0,9;").says("fence(0, 3, 5, 0) = 1", "fence(0, 3, 5, 1) = 2", "fence(0, 2, 5, 0) = 0",
                "fence(0, 2, 5, 1) = 1", "fence(1, 8, 5, 0) = 0", "fence(1, 8, 5, 1) = 1");
    }

    /** Seeds whose first X is 16807 for 1,
            33614 for 2 and so on; what a longer run gives was reckoned apart from the class. */
    private static void decades() {
        Sentences.edge(PART, "DECADES of n YEARS (0 to 60) by a SEED (X at first):");
        Run fresh = Run.of("l1,60;j0,0;t0,1;");
        fresh.says("drawn(-1, 1, 0) = BAD", "drawn(0, 1, 0) = 0", "drawn(0, 1, 1) = 0", "drawn(59, 1, 0) = 61",
                "drawn(59, 1, 1) = 0", "drawn(60, 1, 0) = 62", "drawn(60, 1, 1) = 1", "drawn(61, 1, 0) = BAD");
        Run.of("l1,1;j0,0;t0,1;").says("years(1) = 1", "drawn(0, 7, 0) = 1", "drawn(0, 7, 1) = 1",
                "drawn(60, 7, 1) = 1");
        Sentences.edge(PART, "ahead of each X becomes the rest of (X times 16807) by 2147483647;");
        // X is beyond what 31 bits hold ahead of the rest from the first year on, or from the second
        fresh.says("drawn(1, 999999, 0) = 1", "drawn(2, 999999, 0) = 2", "drawn(3, 999999, 0) = 4",
                "drawn(10, 999999, 0) = 12", "drawn(59, 999999, 0) = 52", "drawn(60, 999999, 0) = 53")
            .says("drawn(10, 1, 0) = 10", "drawn(10, 2, 0) = 10", "drawn(10, 999998, 0) = 4",
                "drawn(10, 500000, 0) = 15", "drawn(59, 2, 0) = 47", "drawn(60, 999998, 0) = 51");
        Run.of("l1,9;j9,0;j3,1;w0,1;w1,2;t1,1;b0,3;").says("drawn(3, 1, 0) = 9", "drawn(10, 1, 0) = 46",
                "drawn(60, 1, 0) = 64", "drawn(60, 1, 1) = 1", "drawn(10, 3, 0) = 16", "drawn(10, 999999, 1) = 1",
                "drawn(60, 999999, 0) = 24");
        Sentences.edge(PART,
                "the GATE of the JUDGE that is the rest of X by how many there are is opened, or shut, if open, if X by 3 leaves 0;");
        fresh.says("drawn(1, 1, 0) = 1", "drawn(1, 2, 0) = 1", "drawn(1, 3, 0) = 2");
        Run.of("l1,60;j0,1;t0,1;").says("drawn(1, 1, 0) = 2", "drawn(1, 2, 0) = 2", "drawn(1, 3, 0) = 1");
        // 50421 leaves 1 by 2, 100842 leaves 0
        Run.of("l1,60;j9,0;j5,0;w0,9;w1,9;").says("drawn(1, 3, 0) = 5", "drawn(1, 6, 0) = 9", "drawn(1, 1, 0) = 0");
        Sentences.edge(PART,
                "the MAN that is the rest of X by how many there are, if he is OUT and X by 4 leaves 0, is tried again by that JUDGE,");
        // 67228 and 201684 leave 0 by 4, the latter by 3 as well; 33614 leaves 2, 50421 leaves 1
        Run.of("l1,60;j0,0;t0,1;").says("years(1) = 0", "drawn(1, 1, 0) = 1", "drawn(1, 2, 0) = 1",
                "drawn(1, 3, 0) = 1", "drawn(1, 4, 0) = 2", "drawn(1, 12, 0) = 3");
        // 67228 leaves 1 by 3 and 0 by 2: the second of three men is tried by the first of two judges,
        // who is beside none
        Run.of("l1,60;j0,0;j9,0;t0,1;t1,1;t1,9;").says("years(1) = 0", "stand(2) = 3", "drawn(1, 4, 0) = 2",
                "drawn(1, 8, 0) = 1", "drawn(1, 1, 0) = 1");
        // who has settled, or waits, is not tried again
        Run.of("l1,1;j0,0;t0,1;t0,9;").says("years(1) = 1", "drawn(1, 4, 0) = 1", "drawn(1, 4, 1) = 1",
                "drawn(9, 4, 0) = 1");
        Sentences.edge(PART, "for the rest of X by 9 and 1 YEARS;");
        // 605052 leaves 0 by 9, so that he settles in that year; 201684 leaves 3
        Run.of("l1,3;j0,0;t0,1;").says("years(1) = 0", "drawn(1, 36, 0) = 3", "drawn(1, 36, 1) = 1",
                "drawn(1, 12, 0) = 3", "drawn(1, 12, 1) = 0");
        Sentences.edge(PART, "then the YEAR: TRUST of all together then; who has SETTLED (bits).");
        Run.of("l9,1;j0,0;j0,0;t0,1;t1,2;f0,9;").says("drawn(1, 1, 0) = 18", "drawn(1, 1, 1) = 1", "drawn(2, 1, 1) = 3",
                "drawn(60, 1, 1) = 3");
        Run late = Run.of("l1,60;j0,0;t0,1;");
        for (int i = 0; i < 41; i++) {
            late.does("years(24)");
        }
        late.says("years(15) = 0", "count(3) = 999", "drawn(1, 4, 0) = 2", "drawn(1, 1, 0) = 1");
    }

    private static void tree() {
        Sentences.edge(PART,
                "KINDS of MEN: 0 MAN; 1 THIEF, a MAN; 2 LIFER, a THIEF; 3 SINGER, a THIEF; 4 WRONGED, a MAN; 5 BOY, a WRONGED. By this it is asked.");
        String[] due = {"110000", "111000", "110100", "100010", "100011"};
        Run run = Run.of("l1,60;j0,0;t0,1;f0,1;s0,1;w0,1;b0,1;");
        for (int one = 0; one < 5; one++) {
            for (int kind = 0; kind <= 5; kind++) {
                run.says("as(" + one + ", " + kind + ") = " + (due[one].charAt(kind) == '1' ? "" + one : "KIND"));
            }
        }
    }

    private static void promises28To30() {
        Sentences.edge("promise 28",
                "int who(int man, int which, int row, int i, int n): KINDS (which = 0), TRUSTS (1 how many, 2 the least; NONE), n ITEMS of a ROW from i on.");
        Run.of(ONE).told(0, 7, 3, 6).says("who(0, 0, 0, 1, 2) = 6", "who(0, 1, 0, 1, 2) = 1", "who(0, 2, 0, 1, 2) = 0",
                "who(0, 2, 0, 0, 2) = NONE", "who(0, 2, 0, 2, 1) = 3", "who(0, 1, 0, 0, 2) = 0");
        Sentences.edge("promise 28", "BAD: MAN, which, ROW, n; NULL; PLACE.");
        Limits.of(28);
        beyond("who(0, 0, ");
        Sentences.edge("promise 29",
                "int severes(int judge, int man, int row, int i, int n): SEVERES of a JUDGE by TRUST of a MAN, likewise.");
        Run.of(ONE).told(0, 7, 3, 6).says("severes(0, 0, 0, 1, 2) = 56", "severes(0, 0, 0, 0, 2) = 0",
                "severes(1, 0, 0, 1, 2) = 1023");
        Sentences.edge("promise 29", "BAD: JUDGE, MAN, ROW, n; NULL; PLACE.");
        Limits.of(29);
        beyond("severes(0, 0, ");
        Sentences.edge("promise 30",
                "int likes(int man, int which, int row, int i, int n): LIKES (which = 0 how many, 1 the least; NONE) by TRUST of a MAN, likewise.");
        Run.of(ONE).told(0, 7, 3, 6).says("likes(0, 0, 0, 1, 2) = 60", "likes(0, 1, 0, 1, 2) = 1",
                "likes(0, 0, 0, 0, 2) = 0", "likes(0, 1, 0, 0, 2) = NONE");
        Sentences.edge("promise 30", "BAD: MAN, which, ROW, n; NULL; PLACE.");
        Limits.of(30);
        beyond("likes(0, 0, ");
    }

    private static void beyond(String call) {
        Run.fresh().told(0, 1, 2, 3).says(call + "0, 0, 1) = BAD", call + "1, 0, 1) = BAD");
        Run.of(ONE).says(call + "0, 0, 1) = NULL", "status() = 1", call + "0, -1, 12) = NULL", call + "0, 0, 0) = BAD",
                call + "0, 0, 13) = BAD", call + "8, 0, 1) = BAD", call + "-1, 0, 1) = BAD")
            .told(0, 3, 6, 9).says(call + "0, 0, 4) = PLACE", "status() = 2", call + "0, 3, 1) = PLACE",
                call + "0, 2, 2) = PLACE", call + "0, -1, 1) = PLACE", call + "0, MAX, 12) = PLACE",
                call + "0, MIN, 1) = PLACE")
            .says(call + "0, 0, 13) = BAD", "status() = 2", "row(1, 0, 0) = 0", call + "1, 0, 1) = PLACE")
            .does(call + "0, 0, 3)", call + "0, 2, 1)").says("status() = 0", "drop(0) = 3", call + "0, 0, 1) = NULL");
    }

    private static void promises31And32() {
        Sentences.edge("promise 31",
                "long fence(int man, int n, int p, int what): FENCE: above (what = 0), below (1). BAD.");
        Limits.of(31);
        Run.fresh().says("fence(0, 0, 0, 0) = BAD", "fence(0, 0, 0, 1) = BAD");
        Sentences.edge("promise 32",
                "int drawn(int n, int seed, int what): DECADES by a SEED (1 to 999999): TRUST (what = 0), SETTLED (1). BAD;");
        Limits.of(32);
        Sentences.edge("promise 32", "STATE: no CIRCUIT (ahead of BAD).");
        Run.fresh().says("drawn(0, 1, 0) = STATE", "drawn(61, 1, 0) = STATE", "drawn(0, 0, 0) = STATE",
                "drawn(0, 1000000, 0) = STATE", "drawn(0, 1, 2) = STATE");
    }
}
