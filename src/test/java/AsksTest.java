/** Promises 35 to 39: kinds, asks by bodies, the trace, and what is counted. */
public final class AsksTest {
    private static final String MANY = "l4,9;j6,1;j2,0;j9,1;t0,3;f1,5;s0,4;w2,2;b2,6;t1,1;";

    public static void main(String[] args) {
        promise35();
        promise36();
        promise37Size();
        promise37Mark();
        promise38();
        promise39();
        Check.end();
    }

    private static JudgeHalves behindTwoYears() {
        JudgeHalves x = Check.of(MANY);
        x.years(2);
        return x;
    }

    private static void promise35() {
        Check.part("promise 35, kind");
        JudgeHalves x = Check.of(MANY);
        int[] due = {1, 2, 3, 4, 5, 1};
        for (int one = 0; one < due.length; one++) {
            Check.due("kind(" + one + ")", x.kind(one), due[one]);
        }
        Check.due("kind(6)", x.kind(6), Check.BAD);
        Check.due("kind(-1)", x.kind(-1), Check.BAD);
    }

    private static void promise36() {
        Check.part("promise 36, as");
        JudgeHalves x = Check.of(MANY);
        int[] isThat = {0b000011, 0b000111, 0b001011, 0b010001, 0b110001, 0b000011};
        for (int one = 0; one < isThat.length; one++) {
            for (int kind = 0; kind <= 5; kind++) {
                boolean is = (isThat[one] >> kind & 1) == 1;
                Check.due("as(" + one + ", " + kind + ")", x.as(one, kind), is ? one : Check.KIND);
                Check.due("status()", x.status(), is ? 0 : 3);
            }
        }
        Check.due("as(0, 6)", x.as(0, 6), Check.BAD);
        Check.due("as(0, -1)", x.as(0, -1), Check.BAD);
        Check.due("as(6, 0)", x.as(6, 0), Check.BAD);
        Check.due("as(-1, 0)", x.as(-1, 0), Check.BAD);
    }

    private static void asked(JudgeHalves x, int one, int what, int answer, int... trace) {
        Check.due("ask(" + one + ", " + what + ")", x.ask(one, what), answer);
        for (int i = 0; i < 17; i++) {
            Check.due("trace(" + i + ") of ask(" + one + ", " + what + ")", x.trace(i),
                i < trace.length ? trace[i] : Check.NONE);
        }
    }

    /** Years and trust then: 1 and 6, 5 and 8, 4 and 0, 0 and 18, 6 and 0, 1 and 0. */
    private static void promise37Size() {
        Check.part("promise 37, size");
        JudgeHalves x = behindTwoYears();
        asked(x, 0, 0, 7, 11, 10, 21, 20);
        asked(x, 1, 0, -23, 12, 11, 10, 24, 21, 20);
        asked(x, 2, 0, -994, 11, 10, 22, 21, 20);
        asked(x, 3, 0, -100, 13, 10);
        asked(x, 4, 0, -188, 14, 13, 10);
        asked(x, 5, 0, 6, 11, 10, 21, 20);
    }

    private static void promise37Mark() {
        Check.part("promise 37, mark");
        JudgeHalves x = behindTwoYears();
        asked(x, 0, 1, 6, 21, 20);
        asked(x, 1, 1, 18, 24, 21, 20);
        asked(x, 2, 1, -998, 22, 21, 20);
        asked(x, 3, 1, 103, 23, 20, 13, 10);
        asked(x, 4, 1, 192, 23, 20, 14, 13, 10);
        Check.due("ask(0, 2)", x.ask(0, 2), Check.BAD);
        Check.due("ask(0, -1)", x.ask(0, -1), Check.BAD);
        Check.due("ask(6, 0)", x.ask(6, 0), Check.BAD);
        Check.due("ask(-1, 0)", x.ask(-1, 0), Check.BAD);
    }

    private static void promise38() {
        Check.part("promise 38, trace");
        JudgeHalves x = behindTwoYears();
        Check.due("trace(0), nothing asked", x.trace(0), Check.NONE);
        x.ask(4, 1);
        x.ask(9, 0);
        x.ask(0, 7);
        Check.due("trace(4), BAD leaves it", x.trace(4), 10);
        x.years(1);
        Check.due("trace(0), other calls leave it", x.trace(0), 23);
        Check.due("trace(-1)", x.trace(-1), Check.NONE);
        Check.due("trace(5)", x.trace(5), Check.NONE);
        Check.due("trace(max)", x.trace(Integer.MAX_VALUE), Check.NONE);
        Check.due("trace(min)", x.trace(Integer.MIN_VALUE), Check.NONE);
        x.ask(0, 1);
        Check.due("trace(1)", x.trace(1), 20);
        Check.due("trace(2), empty ahead of an ask", x.trace(2), Check.NONE);
    }

    private static void promise39() {
        Check.part("promise 39, count");
        JudgeHalves x = behindTwoYears();
        x.row(5, 0, 3);
        x.row(0, 0, 0);
        x.feed(65);
        x.gate(0, 0);
        int[] due = {2, 6, 3, 2, 32, 3, 3, 1};
        for (int what = 0; what < due.length; what++) {
            Check.due("count(" + what + ")", x.count(what), due[what]);
        }
        Check.due("count(8)", x.count(8), Check.BAD);
        Check.due("count(-1)", x.count(-1), Check.BAD);
    }
}
