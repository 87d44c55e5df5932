/** Promises 28 to 30: kinds, trusts, severes and likes that fit to a row. */
public final class FitsTest {
    /** A thief or one for life grows 3 - 1 + 1, one wronged 4, a boy 5. */
    private static final String ONE = "l3,60;j4,1;j0,0;t0,9;";

    public static void main(String[] args) {
        promise28Kinds();
        promise28Trusts();
        promise28Bad();
        promise29();
        promise29Bad();
        promise30();
        promise30Bad();
        Check.end();
    }

    private static int who(JudgeHalves x, int which, int... items) {
        return x.who(0, which, Check.rowOf(x, 3, items), 0, items.length);
    }

    private static void promise28Kinds() {
        Check.part("promise 28, kinds");
        JudgeHalves x = Check.of(ONE);
        Check.due("3", who(x, 0, 3), 14);
        Check.due("3 6 9", who(x, 0, 3, 6, 9), 6);
        Check.due("3 9 12", who(x, 0, 3, 9, 12), 8);
        Check.due("4 8", who(x, 0, 4, 8), 16);
        Check.due("5 10", who(x, 0, 5, 10), 32);
        Check.due("7", who(x, 0, 7), 0);
        JudgeHalves y = Check.of("l3,60;j4,1;t0,2;");
        Check.due("3 6 9, for life alone", who(y, 0, 3, 6, 9), 4);
        Check.due("3 6 6, out then", who(y, 0, 3, 6, 6), 2);
        Check.due("kind(0) stays", y.kind(0), 1);
        x.years(1);
        Check.due("9, from an odd year on", who(x, 0, 9), 8);
        Check.due("twelve years", who(x, 0, 6, 9, 12, 15, 18, 21, 24, 27, 27, 27, 27, 27), 2);
    }

    private static void promise28Trusts() {
        Check.part("promise 28, trusts");
        JudgeHalves x = Check.of(ONE);
        Check.due("3, how many", who(x, 1, 3), 1);
        Check.due("3, the least", who(x, 2, 3), 0);
        Check.due("99, how many", who(x, 1, 99), 4);
        Check.due("99, the least", who(x, 2, 99), 96);
        Check.due("98 99, how many", who(x, 1, 98, 99), 1);
        Check.due("98 99, the least", who(x, 2, 98, 99), 95);
        Check.due("2, how many", who(x, 1, 2), 0);
        Check.due("2, the least", who(x, 2, 2), Check.NONE);
        Check.due("102, how many", who(x, 1, 102), 0);
        Check.due("-1, the least", who(x, 2, -1), Check.NONE);
        Check.due("man(0, 3) stays", x.man(0, 3), 0);
        JudgeHalves w = Check.of("l3,60;j4,0;w0,9;");
        Check.due("0, trust that does not grow", who(w, 2, 0, 0), 0);
        Check.due("99", who(w, 1, 99, 99), 1);
    }

    private static void promise28Bad() {
        Check.part("promise 28, wrong inputs");
        JudgeHalves x = Check.of(ONE);
        x.row(0, 0, 5);
        Check.due("who(1, 0, 0, 0, 1)", x.who(1, 0, 0, 0, 1), Check.BAD);
        Check.due("who(0, 3, 0, 0, 1)", x.who(0, 3, 0, 0, 1), Check.BAD);
        Check.due("who(0, -1, 0, 0, 1)", x.who(0, -1, 0, 0, 1), Check.BAD);
        Check.due("who(0, 0, 8, 0, 1)", x.who(0, 0, 8, 0, 1), Check.BAD);
        Check.due("who(0, 0, 0, 0, 0)", x.who(0, 0, 0, 0, 0), Check.BAD);
        Check.due("who(0, 0, 0, 0, 13)", x.who(0, 0, 0, 0, 13), Check.BAD);
        Check.due("who(0, 0, 1, 0, 0), missing", x.who(0, 0, 1, 0, 0), Check.BAD);
        Check.due("who(0, 0, 1, -1, 1)", x.who(0, 0, 1, -1, 1), Check.NULL);
        Check.due("who(0, 0, 0, -1, 1)", x.who(0, 0, 0, -1, 1), Check.PLACE);
        Check.due("who(0, 0, 0, 5, 1)", x.who(0, 0, 0, 5, 1), Check.PLACE);
        Check.due("who(0, 0, 0, 4, 2)", x.who(0, 0, 0, 4, 2), Check.PLACE);
        Check.due("who(0, 0, 0, max, 2)", x.who(0, 0, 0, Integer.MAX_VALUE, 2), Check.PLACE);
        x.set(0, 4, 3);
        Check.due("who(0, 0, 0, 4, 1)", x.who(0, 0, 0, 4, 1), 14);
        Check.due("status()", x.status(), 0);
    }

    private static int severes(JudgeHalves x, int judge, int... items) {
        return x.severes(judge, 0, Check.rowOf(x, 3, items), 0, items.length);
    }

    private static void promise29() {
        Check.part("promise 29, severes");
        JudgeHalves x = Check.of(ONE);
        Check.due("3", severes(x, 0, 3), 56);
        Check.due("4 8", severes(x, 0, 4, 8), 7);
        Check.due("1", severes(x, 0, 1), 512);
        Check.due("5", severes(x, 0, 5), 0);
        Check.due("3, by the other judge", severes(x, 1, 3), 1023);
        Check.due("4, by the other judge", severes(x, 1, 4), 0);
        Check.due("judge(0, 0) stays", x.judge(0, 0), 4);
        JudgeHalves w = Check.of("l3,60;j4,1;w0,9;");
        Check.due("9 18", severes(w, 0, 9, 18), 512);
        Check.due("0 0", severes(w, 0, 0, 0), 1);
    }

    private static void promise29Bad() {
        Check.part("promise 29, wrong inputs");
        JudgeHalves x = Check.of(ONE);
        x.row(0, 0, 5);
        Check.due("severes(2, 0, 0, 0, 1)", x.severes(2, 0, 0, 0, 1), Check.BAD);
        Check.due("severes(-1, 0, 0, 0, 1)", x.severes(-1, 0, 0, 0, 1), Check.BAD);
        Check.due("severes(0, 1, 0, 0, 1)", x.severes(0, 1, 0, 0, 1), Check.BAD);
        Check.due("severes(0, 0, 8, 0, 1)", x.severes(0, 0, 8, 0, 1), Check.BAD);
        Check.due("severes(0, 0, 0, 0, 0)", x.severes(0, 0, 0, 0, 0), Check.BAD);
        Check.due("severes(0, 0, 0, 0, 13)", x.severes(0, 0, 0, 0, 13), Check.BAD);
        Check.due("severes(0, 0, 1, 0, 1)", x.severes(0, 0, 1, 0, 1), Check.NULL);
        Check.due("severes(0, 0, 0, 3, 3)", x.severes(0, 0, 0, 3, 3), Check.PLACE);
        Check.due("severes(0, 0, 0, -1, 3)", x.severes(0, 0, 0, -1, 3), Check.PLACE);
    }

    private static int likes(JudgeHalves x, int man, int which, int... items) {
        return x.likes(man, which, Check.rowOf(x, 3, items), 0, items.length);
    }

    /** The first has 6 trust in the end: he settles by a like of 6 or less, and the other one waits on. */
    private static void promise30() {
        Check.part("promise 30, likes");
        JudgeHalves x = Check.of("l3,60;j4,1;t0,2;t0,9;");
        Check.due("0 0 3, how many", likes(x, 1, 0, 0, 0, 3), 54);
        Check.due("0 0 3, the least", likes(x, 1, 1, 0, 0, 3), 7);
        Check.due("0 0 0, how many", likes(x, 1, 0, 0, 0, 0), 6);
        Check.due("0 0 0, the least", likes(x, 1, 1, 0, 0, 0), 1);
        Check.due("0 1, how many", likes(x, 1, 0, 0, 1), 0);
        Check.due("0 1, the least", likes(x, 1, 1, 0, 1), Check.NONE);
        Check.due("3 6, of the first", likes(x, 0, 0, 3, 6), 60);
        Check.due("stand(5) stays", x.stand(5), 60);
    }

    private static void promise30Bad() {
        Check.part("promise 30, wrong inputs");
        JudgeHalves x = Check.of(ONE);
        x.row(0, 0, 5);
        Check.due("likes(1, 0, 0, 0, 1)", x.likes(1, 0, 0, 0, 1), Check.BAD);
        Check.due("likes(0, 2, 0, 0, 1)", x.likes(0, 2, 0, 0, 1), Check.BAD);
        Check.due("likes(0, -1, 0, 0, 1)", x.likes(0, -1, 0, 0, 1), Check.BAD);
        Check.due("likes(0, 0, -1, 0, 1)", x.likes(0, 0, -1, 0, 1), Check.BAD);
        Check.due("likes(0, 0, 0, 0, 0)", x.likes(0, 0, 0, 0, 0), Check.BAD);
        Check.due("likes(0, 0, 0, 0, 13)", x.likes(0, 0, 0, 0, 13), Check.BAD);
        Check.due("likes(0, 0, 1, 0, 1)", x.likes(0, 0, 1, 0, 1), Check.NULL);
        Check.due("likes(0, 0, 0, 5, 1)", x.likes(0, 0, 0, 5, 1), Check.PLACE);
    }
}
