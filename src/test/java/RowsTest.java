/** Promises 1 to 5 and, of rows, 39 and 40. */
public final class RowsTest {
    public static void main(String[] args) {
        promise1();
        promise2();
        promise3();
        promise4();
        promise4Order();
        promise5();
        promise40();
        Check.end();
    }

    private static void promise1() {
        Check.part("promise 1, a new object");
        JudgeHalves x = new JudgeHalves();
        for (int what = 0; what < 8; what++) {
            Check.due("count(" + what + ")", x.count(what), 0);
        }
        Check.due("stand(9)", x.stand(9), Check.STATE);
        Check.due("fault()", x.fault(), 0);
        Check.due("status()", x.status(), 0);
        Check.due("trace(0)", x.trace(0), Check.NONE);
        Check.due("undo()", x.undo(), Check.STATE);
        Check.due("drop(7)", x.drop(7), Check.NULL);
    }

    private static void promise2() {
        Check.part("promise 2, row");
        JudgeHalves x = new JudgeHalves();
        Check.due("row(0, 0, 0)", x.row(0, 0, 0), 0);
        Check.due("row(7, 2, 40)", x.row(7, 2, 40), 40);
        Check.due("row(8, 0, 1)", x.row(8, 0, 1), Check.BAD);
        Check.due("row(-1, 0, 1)", x.row(-1, 0, 1), Check.BAD);
        Check.due("row(1, -1, 1)", x.row(1, -1, 1), Check.BAD);
        Check.due("row(1, 3, 1)", x.row(1, 3, 1), Check.BAD);
        Check.due("row(1, 0, 41)", x.row(1, 0, 41), Check.BAD);
        Check.due("row(1, 0, max)", x.row(1, 0, Integer.MAX_VALUE), Check.BAD);
        Check.due("row(1, 0, -1)", x.row(1, 0, -1), Check.SIZE);
        Check.due("row(8, 0, -1)", x.row(8, 0, -1), Check.BAD);
        Check.due("row(1, 3, -1)", x.row(1, 3, -1), Check.BAD);
        Check.due("row(1, 0, min)", x.row(1, 0, Integer.MIN_VALUE), Check.SIZE);
        Check.due("count(0)", x.count(0), 2);
        Check.due("set(7, 39, 5)", x.set(7, 39, 5), 5);
        Check.due("row(7, 0, -3)", x.row(7, 0, -3), Check.SIZE);
        Check.due("drop(7), as it was", x.drop(7), 40);
        Check.due("row(7, 2, 3)", x.row(7, 2, 3), 3);
        x.set(7, 0, 9);
        x.set(7, 1, 9);
        Check.due("row(7, 2, 2)", x.row(7, 2, 2), 2);
        Check.fed(x, "l1,1;j0,0;w0,30;").circuit();
        Check.due("items are 0 at first, again", x.who(0, 2, 7, 0, 2), 0);
        Check.due("set(7, 2, 1), beyond", x.set(7, 2, 1), Check.PLACE);
        Check.due("count(0)", x.count(0), 2);
    }

    private static void promise3() {
        Check.part("promise 3, set");
        JudgeHalves x = new JudgeHalves();
        x.row(0, 0, 2);
        x.row(1, 1, 2);
        x.row(2, 2, 2);
        Check.due("set(0, 0, 127)", x.set(0, 0, 127), 127);
        Check.due("set(0, 0, 128)", x.set(0, 0, 128), -128);
        Check.due("set(0, 0, 511)", x.set(0, 0, 511), -1);
        Check.due("set(0, 0, -129)", x.set(0, 0, -129), 127);
        Check.due("set(1, 1, 32768)", x.set(1, 1, 32768), -32768);
        Check.due("set(1, 1, 65537)", x.set(1, 1, 65537), 1);
        Check.due("set(2, 1, min)", x.set(2, 1, Integer.MIN_VALUE), Integer.MIN_VALUE);
        Check.due("set(0, 2, 1)", x.set(0, 2, 1), Check.PLACE);
        Check.due("set(0, -1, 1)", x.set(0, -1, 1), Check.PLACE);
        Check.due("set(0, max, 1)", x.set(0, Integer.MAX_VALUE, 1), Check.PLACE);
        Check.due("set(3, 0, 1)", x.set(3, 0, 1), Check.NULL);
        Check.due("set(3, -1, 1)", x.set(3, -1, 1), Check.NULL);
        Check.due("set(8, 0, 1)", x.set(8, 0, 1), Check.BAD);
        Check.due("set(-1, 0, 1)", x.set(-1, 0, 1), Check.BAD);
    }

    /** Items are not read by a call of their own: trust told by a row shows what stands in it. */
    private static void promise4() {
        Check.part("promise 4, copy");
        JudgeHalves x = Check.of("l3,60;j0,0;t0,30;");
        Check.rowOf(x, 0, 3, 6, 9, 0);
        x.row(1, 2, 5);
        Check.due("copy(0, 0, 1, 2, 3)", x.copy(0, 0, 1, 2, 3), 3);
        Check.due("it has come", x.who(0, 2, 1, 2, 3), 0);
        Check.due("the place ahead is as it was", x.who(0, 2, 1, 1, 1), Check.NONE);
        Check.due("copy(0, 0, 0, 1, 3), onto itself", x.copy(0, 0, 0, 1, 3), 3);
        Check.due("as it was ahead", x.who(0, 2, 0, 1, 3), 0);
        Check.due("its first stays", x.who(0, 2, 0, 0, 1), 0);
        Check.due("copy(0, 1, 0, 0, 3), back", x.copy(0, 1, 0, 0, 3), 3);
        Check.due("as it was ahead", x.who(0, 2, 0, 0, 3), 0);
        Check.due("copy(0, 4, 1, 5, 0)", x.copy(0, 4, 1, 5, 0), 0);
        Check.due("copy(0, 5, 1, 0, 0)", x.copy(0, 5, 1, 0, 0), Check.PLACE);
        Check.due("copy(0, 0, 1, 6, 0)", x.copy(0, 0, 1, 6, 0), Check.PLACE);
        Check.due("copy(0, 2, 1, 0, 3)", x.copy(0, 2, 1, 0, 3), Check.PLACE);
        Check.due("copy(0, 0, 1, 3, 3)", x.copy(0, 0, 1, 3, 3), Check.PLACE);
        Check.due("copy(0, -1, 1, 0, 1)", x.copy(0, -1, 1, 0, 1), Check.PLACE);
        Check.due("copy(0, 0, 1, -1, 1)", x.copy(0, 0, 1, -1, 1), Check.PLACE);
        Check.due("copy(0, 0, 1, 0, -1)", x.copy(0, 0, 1, 0, -1), Check.PLACE);
        Check.due("copy(0, 2, 1, 0, max)", x.copy(0, 2, 1, 0, Integer.MAX_VALUE), Check.PLACE);
        Check.due("copy(0, max, 1, max, max)",
            x.copy(0, Integer.MAX_VALUE, 1, Integer.MAX_VALUE, Integer.MAX_VALUE), Check.PLACE);
    }

    private static void promise4Order() {
        Check.part("promise 4, what is found first");
        JudgeHalves x = new JudgeHalves();
        x.row(0, 2, 2);
        x.row(1, 1, 2);
        Check.due("copy(8, 0, 0, 0, 1)", x.copy(8, 0, 0, 0, 1), Check.BAD);
        Check.due("copy(0, 0, -1, 0, 1)", x.copy(0, 0, -1, 0, 1), Check.BAD);
        Check.due("copy(5, 0, 9, 0, 1)", x.copy(5, 0, 9, 0, 1), Check.BAD);
        Check.due("copy(0, 0, 5, 0, 1)", x.copy(0, 0, 5, 0, 1), Check.NULL);
        Check.due("copy(5, -1, 0, 0, 1)", x.copy(5, -1, 0, 0, 1), Check.NULL);
        Check.due("copy(0, 0, 1, 0, 1)", x.copy(0, 0, 1, 0, 1), Check.STORE);
        Check.due("copy(0, -1, 1, 0, 9)", x.copy(0, -1, 1, 0, 9), Check.STORE);
        Check.due("copy(0, 0, 1, 0, 0)", x.copy(0, 0, 1, 0, 0), Check.STORE);
        Check.due("status()", x.status(), 5);
    }

    private static void promise5() {
        Check.part("promise 5, drop");
        JudgeHalves x = new JudgeHalves();
        x.row(3, 1, 17);
        x.row(4, 1, 0);
        Check.due("drop(3)", x.drop(3), 17);
        Check.due("drop(3)", x.drop(3), Check.NULL);
        Check.due("drop(4)", x.drop(4), 0);
        Check.due("drop(8)", x.drop(8), Check.BAD);
        Check.due("drop(-1)", x.drop(-1), Check.BAD);
        Check.due("count(0)", x.count(0), 0);
        Check.due("set(3, 0, 1)", x.set(3, 0, 1), Check.NULL);
    }

    private static void promise40() {
        Check.part("promise 40, status");
        JudgeHalves x = Check.of("l3,60;j0,0;t0,30;w0,2;");
        Check.due("none yet", x.status(), 0);
        x.set(0, 0, 1);
        Check.due("behind NULL", x.status(), 1);
        x.set(9, 0, 1);
        Check.due("BAD leaves it", x.status(), 1);
        x.row(0, 0, 1);
        Check.due("a row made", x.status(), 0);
        x.set(0, 1, 1);
        Check.due("behind PLACE", x.status(), 2);
        x.undo();
        x.count(0);
        x.gate(0, 1);
        Check.due("calls without a row leave it", x.status(), 2);
        x.as(0, 4);
        Check.due("behind KIND", x.status(), 3);
        x.as(9, 4);
        Check.due("as() that is BAD leaves it", x.status(), 3);
        x.as(0, 1);
        Check.due("as() that found nothing", x.status(), 0);
        x.row(0, 0, -1);
        Check.due("behind SIZE", x.status(), 4);
        x.who(0, 0, 0, 0, 1);
        Check.due("who() that found nothing", x.status(), 0);
        x.likes(0, 0, 1, 0, 1);
        Check.due("likes() of a missing row", x.status(), 1);
        x.severes(0, 0, 0, 0, 2);
        Check.due("severes() beyond the end", x.status(), 2);
        x.who(0, 3, 1, 0, 1);
        Check.due("who() that is BAD leaves it", x.status(), 2);
        x.drop(0);
        Check.due("drop()", x.status(), 0);
    }
}
