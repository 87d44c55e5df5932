/** Promises 19 to 27 and 31 to 34: what is foretold, planned, likely, drawn and kept in images. */
public final class ForetoldTest {
    private static final String MANY = "l4,9;j6,1;j2,0;j9,1;t0,3;f1,5;s0,4;w2,2;b2,6;t1,1;";
    private static final String QUEUE = "l1,60;j0,0;t0,2;t0,3;s0,1;";
    /** By judge 0 a thief grows 1 a year, by judge 1 nothing. */
    private static final String TWO = "l1,60;j0,0;j9,0;t0,2;t0,2;";

    public static void main(String[] args) {
        promise19();
        promise20();
        promise21();
        promise22();
        promise22Bad();
        promise23();
        promise24();
        promise25();
        promise26();
        promise27();
        promise31();
        promise32();
        promise33And34();
        nothingChanges();
        Check.end();
    }

    private static void promise19() {
        Check.part("promise 19, ahead");
        JudgeHalves x = Check.of(MANY);
        Check.due("ahead(0, 0, 0)", x.ahead(0, 0, 0), 0);
        Check.due("ahead(0, 2, 0)", x.ahead(0, 2, 0), 6);
        Check.due("ahead(0, 2, 1)", x.ahead(0, 2, 1), 1);
        Check.due("ahead(0, 2, 2)", x.ahead(0, 2, 2), 1);
        Check.due("ahead(0, 3, 1)", x.ahead(0, 3, 1), 3);
        Check.due("ahead(0, 3, 2)", x.ahead(0, 3, 2), 0);
        Check.due("ahead(0, 60, 0)", x.ahead(0, 60, 0), 9);
        Check.due("ahead(1, 24, 0)", x.ahead(1, 24, 0), 96);
        Check.due("ahead(1, 25, 0)", x.ahead(1, 25, 0), 99);
        Check.due("ahead(1, 60, 2)", x.ahead(1, 60, 2), 5);
        Check.due("ahead(4, 60, 1)", x.ahead(4, 60, 1), 0);
        x.years(1);
        Check.due("ahead(0, 1, 0)", x.ahead(0, 1, 0), 6);
        Check.due("ahead(0, 61, 0)", x.ahead(0, 61, 0), Check.BAD);
        Check.due("ahead(0, -1, 0)", x.ahead(0, -1, 0), Check.BAD);
        Check.due("ahead(0, 1, 3)", x.ahead(0, 1, 3), Check.BAD);
        Check.due("ahead(0, 1, -1)", x.ahead(0, 1, -1), Check.BAD);
        Check.due("ahead(6, 1, 0)", x.ahead(6, 1, 0), Check.BAD);
        Check.due("ahead(-1, 1, 0)", x.ahead(-1, 1, 0), Check.BAD);
    }

    private static void promise20() {
        Check.part("promise 20, by");
        JudgeHalves q = Check.of(QUEUE);
        int[] due = {Check.NONE, 0, Check.NONE, 1, 1, Check.NONE, Check.NONE};
        for (int n = 0; n < due.length; n++) {
            Check.due("by(0, " + n + ")", q.by(0, n), due[n]);
        }
        JudgeHalves x = Check.of(MANY);
        Check.due("by(2, 1), beside", x.by(2, 1), 3);
        Check.due("by(2, 60), settled", x.by(2, 60), 3);
        Check.due("by(2, 61)", x.by(2, 61), Check.BAD);
        Check.due("by(2, -1)", x.by(2, -1), Check.BAD);
        Check.due("by(3, 1)", x.by(3, 1), Check.BAD);
        Check.due("by(-1, 1)", x.by(-1, 1), Check.BAD);
    }

    private static void promise21() {
        Check.part("promise 21, when");
        JudgeHalves q = Check.of(QUEUE);
        int[][] due = {{1, 2, Check.NONE}, {3, 5, Check.NONE}, {Check.NONE, 6, Check.NONE}};
        for (int man = 0; man < 3; man++) {
            for (int how = 1; how <= 3; how++) {
                Check.due("when(" + man + ", " + how + ")", q.when(man, how), due[man][how - 1]);
            }
        }
        q.years(2);
        Check.due("when(0, 2), now", q.when(0, 2), 0);
        Check.due("when(0, 1), no more", q.when(0, 1), Check.NONE);
        Check.due("when(0, 0)", q.when(0, 0), Check.BAD);
        Check.due("when(0, 4)", q.when(0, 4), Check.BAD);
        Check.due("when(3, 1)", q.when(3, 1), Check.BAD);
        JudgeHalves late = Check.of("l1,60;j0,0;t0,30;t0,30;t0,1;");
        Check.due("when(1, 2), behind 60", late.when(1, 2), 60);
        Check.due("when(2, 2), later than that", late.when(2, 2), Check.NONE);
        Check.due("when(1, 1)", late.when(1, 1), 31);
        Check.due("when(0, 3)", Check.of("l2,60;j0,0;t0,30;").when(0, 3), 30);
    }

    private static void promise22() {
        Check.part("promise 22, sending");
        JudgeHalves x = Check.of(TWO);
        Check.due("sending(2, -1)", x.sending(2, -1), 2);
        Check.due("sending(2, 0)", x.sending(2, 0), 0);
        Check.due("sending(2, 1)", x.sending(2, 1), 1);
        Check.due("sending(4, -1)", x.sending(4, -1), 2);
        Check.due("sending(4, 0)", x.sending(4, 0), 0);
        Check.due("sending(4, 1), for more trust", x.sending(4, 1), 0);
        Check.due("sending(1, -1)", x.sending(1, -1), 0);
        Check.due("sending(1, 1), the first of several", x.sending(1, 1), 0);
        x.years(1);
        Check.due("sending(2, -1)", x.sending(2, -1), 2);
        Check.due("sending(2, 0), as it is", x.sending(2, 0), 0);
        Check.due("sending(2, 1)", x.sending(2, 1), 1);
        Check.due("sending(1, 1)", x.sending(1, 1), 0);
        x.years(1);
        Check.due("sending(1, -1), who is out counts", x.sending(1, -1), 1);
        Check.due("sending(1, 0), out, as it is", x.sending(1, 0), 0);
        JudgeHalves trust = Check.of("l1,60;j9,0;j0,0;t0,9;");
        Check.due("sending(1, 0), most trust", trust.sending(1, 0), 1);
    }

    private static void promise22Bad() {
        Check.part("promise 22, wrong inputs");
        Check.due("sending(0, 9), no circuit", new JudgeHalves().sending(0, 9), Check.STATE);
        JudgeHalves x = Check.of(TWO);
        Check.due("sending(0, -1)", x.sending(0, -1), Check.BAD);
        Check.due("sending(31, -1)", x.sending(31, -1), Check.BAD);
        Check.due("sending(1, 2)", x.sending(1, 2), Check.BAD);
        Check.due("sending(1, -2)", x.sending(1, -2), Check.BAD);
    }

    private static void promise23() {
        Check.part("promise 23, gates");
        JudgeHalves x = Check.of("l1,60;j0,0;j9,0;t0,5;w1,5;");
        Check.due("gates(3, 0)", x.gates(3, 0), 3);
        Check.due("gates(3, 1)", x.gates(3, 1), 33);
        JudgeHalves y = Check.of("l1,60;j0,1;j9,1;w0,5;w1,5;");
        Check.due("gates(2, 0), the least of several", y.gates(2, 0), 2);
        Check.due("gates(2, 1)", y.gates(2, 1), 18);
        // an open gate settles the first, so that the other one waits for good
        JudgeHalves z = Check.of("l1,2;j0,0;t0,1;b0,30;");
        Check.due("gates(30, 0), shut", z.gates(30, 0), 0);
        Check.due("gates(30, 1)", z.gates(30, 1), 30);
        Check.due("gates(1, 0), open", z.gates(1, 0), 1);
        Check.due("gates(0, 0)", z.gates(0, 0), Check.BAD);
        Check.due("gates(31, 0)", z.gates(31, 0), Check.BAD);
        Check.due("gates(1, 2)", z.gates(1, 2), Check.BAD);
        Check.due("gates(1, -1)", z.gates(1, -1), Check.BAD);
        Check.due("gates(0, 9), no circuit", new JudgeHalves().gates(0, 9), Check.STATE);
    }

    private static void promise24() {
        Check.part("promise 24, let");
        JudgeHalves q = Check.of(QUEUE);
        int[][] due = {{2, 2, 3}, {3, 1, 2}, {4, 1, 1}, {5, 1, 1}, {6, 0, 0}, {30, 0, 0}};
        for (int[] one : due) {
            Check.due("let(" + one[0] + ", 0)", q.let(one[0], 0), one[1]);
            Check.due("let(" + one[0] + ", 1)", q.let(one[0], 1), one[2]);
        }
        q.years(1);
        Check.due("let(1, 0), one beside can be let off", q.let(1, 0), 2);
        Check.due("let(1, 1)", q.let(1, 1), 3);
        Check.due("let(0, 0)", q.let(0, 0), Check.BAD);
        Check.due("let(31, 0)", q.let(31, 0), Check.BAD);
        Check.due("let(1, 2)", q.let(1, 2), Check.BAD);
        Check.due("let(1, -1)", q.let(1, -1), Check.BAD);
        Check.due("let(0, 9), no circuit", new JudgeHalves().let(0, 9), Check.STATE);
        JudgeHalves s = Check.of("l5,1;j0,0;t0,1;t0,1;");
        s.years(1);
        Check.due("let(1, 1), who has settled stays", s.let(1, 1), 2);
    }

    private static void promise25() {
        Check.part("promise 25, closest");
        JudgeHalves x = Check.of(MANY);
        Check.due("closest(0, 0), the first of several", x.closest(0, 0), 0);
        Check.due("closest(0, 1)", x.closest(0, 1), 0);
        x.years(3);
        Check.due("closest(1, 0)", x.closest(1, 0), 1);
        Check.due("closest(1, 1)", x.closest(1, 1), 12);
        Check.due("closest(2, 1)", x.closest(2, 1), 18);
        Check.due("closest(3, 0)", x.closest(3, 0), Check.BAD);
        Check.due("closest(-1, 0)", x.closest(-1, 0), Check.BAD);
        Check.due("closest(0, 2)", x.closest(0, 2), Check.BAD);
        Check.due("closest(0, -1)", x.closest(0, -1), Check.BAD);
        JudgeHalves alone = Check.of(TWO);
        Check.due("closest(1, 0)", alone.closest(1, 0), Check.NONE);
        Check.due("closest(1, 1)", alone.closest(1, 1), Check.NONE);
        JudgeHalves q = Check.of(QUEUE);
        q.years(5);
        Check.due("closest(0, 0), who is out, too", q.closest(0, 0), 1);
        Check.due("closest(0, 1)", q.closest(0, 1), 3);
    }

    private static void promise26() {
        Check.part("promise 26, share");
        JudgeHalves x = Check.of("l1,60;j0,0;j0,1;j9,1;t0,9;t1,9;w2,9;t0,9;");
        Check.due("share(0, 10), none has any", x.share(0, 10), 0);
        x.years(1);
        int[][] due = {{10, 1, 2, 7, 0}, {999, 84, 166, 749, 0}, {12, 1, 2, 9, 0}, {1, 1, 0, 0, 0}, {0, 0, 0, 0, 0}};
        for (int[] one : due) {
            for (int man = 0; man < 4; man++) {
                Check.due("share(" + man + ", " + one[0] + ")", x.share(man, one[0]), one[man + 1]);
            }
        }
        Check.due("share(0, 1000)", x.share(0, 1000), Check.BAD);
        Check.due("share(0, -1)", x.share(0, -1), Check.BAD);
        Check.due("share(4, 1)", x.share(4, 1), Check.BAD);
        Check.due("share(-1, 1)", x.share(-1, 1), Check.BAD);
        JudgeHalves q = Check.of(QUEUE);
        q.years(3);
        Check.due("share(0, 10), out", q.share(0, 10), 0);
        Check.due("share(1, 10)", q.share(1, 10), 10);
        JudgeHalves y = Check.of("l1,60;j0,0;j0,0;j0,0;w0,9;t1,9;t2,9;");
        y.years(1);
        Check.due("share(0, 1), no trust", y.share(0, 1), 0);
        Check.due("share(1, 1), the first who has any", y.share(1, 1), 1);
        Check.due("share(2, 1)", y.share(2, 1), 0);
    }

    private static void promise27() {
        Check.part("promise 27, byTurns");
        JudgeHalves x = Check.of("l1,60;j0,0;j0,0;t0,1;t1,1;");
        int[] dueOf11 = {0, 5, 0, 5, 0};
        for (int n = 0; n <= 4; n++) {
            Check.due("byTurns(0, 1, " + n + ", 11)", x.byTurns(0, 1, n, 11), dueOf11[n]);
        }
        Check.due("byTurns(0, 1, 3, 6)", x.byTurns(0, 1, 3, 6), 0);
        // more years for the thief keep out the one wronged, who grows by 9
        JudgeHalves y = Check.of("l1,60;j9,1;j0,0;t0,1;w0,9;");
        Check.due("byTurns(0, 1, 1, 5), better nothing", y.byTurns(0, 1, 1, 5), 37);
        Check.due("byTurns(1, 0, 1, 5)", y.byTurns(1, 0, 1, 5), -37);
        Check.due("byTurns(1, 0, 4, 5)", y.byTurns(1, 0, 4, 5), -37);
        Check.due("byTurns(0, 1, 0, 1)", y.byTurns(0, 1, 0, 1), 1);
        Check.due("byTurns(0, 1, 0, 20)", y.byTurns(0, 1, 0, 20), 82);
        Check.due("byTurns(0, 0, 1, 5)", y.byTurns(0, 0, 1, 5), Check.BAD);
        Check.due("byTurns(0, 2, 1, 5)", y.byTurns(0, 2, 1, 5), Check.BAD);
        Check.due("byTurns(-1, 0, 1, 5)", y.byTurns(-1, 0, 1, 5), Check.BAD);
        Check.due("byTurns(0, 1, 5, 5)", y.byTurns(0, 1, 5, 5), Check.BAD);
        Check.due("byTurns(0, 1, -1, 5)", y.byTurns(0, 1, -1, 5), Check.BAD);
        Check.due("byTurns(0, 1, 1, 0)", y.byTurns(0, 1, 1, 0), Check.BAD);
        Check.due("byTurns(0, 1, 1, 21)", y.byTurns(0, 1, 1, 21), Check.BAD);
        Check.due("man(0, 2), nothing has changed", y.man(0, 2), 1);
    }

    private static void promise31() {
        Check.part("promise 31, fence");
        JudgeHalves x = Check.of("l3,6;j4,1;t0,2;");
        fraction(x, 2, 4, 9, 25);
        fraction(x, 8, 4, 9, 25);
        fraction(x, 2, 0, 1, 1);
        fraction(x, 2, 10, 0, 1);
        fraction(x, 1, 4, 0, 1);
        fraction(x, 0, 4, 0, 1);
        fraction(Check.of("l3,3;j4,1;t0,2;"), 2, 4, 21, 25);
        fraction(Check.of("l3,3;j4,1;t0,1;"), 0, 0, 0, 1);
        fraction(Check.of("l3,24;j4,1;t0,8;"), 8, 9, 1, 100000000L);
        JudgeHalves settled = Check.of("l5,1;j0,0;t0,1;");
        settled.years(1);
        fraction(settled, 0, 5, 1, 1);
        fraction(settled, 8, 10, 1, 1);
        Check.due("fence(0, 9, 1, 0)", x.fence(0, 9, 1, 0), Check.BAD);
        Check.due("fence(0, -1, 1, 0)", x.fence(0, -1, 1, 0), Check.BAD);
        Check.due("fence(0, 1, 11, 0)", x.fence(0, 1, 11, 0), Check.BAD);
        Check.due("fence(0, 1, -1, 0)", x.fence(0, 1, -1, 0), Check.BAD);
        Check.due("fence(0, 1, 1, 2)", x.fence(0, 1, 1, 2), Check.BAD);
        Check.due("fence(1, 1, 1, 0)", x.fence(1, 1, 1, 0), Check.BAD);
    }

    private static void fraction(JudgeHalves x, int n, int p, long above, long below) {
        Check.due("fence(0, " + n + ", " + p + ", 0)", x.fence(0, n, p, 0), above);
        Check.due("fence(0, " + n + ", " + p + ", 1)", x.fence(0, n, p, 1), below);
    }

    /** X from 1 on: the sixth leaves 0 by 4 and 8 by 9, the seventh leaves 0 by 3; none ahead of these does. */
    private static void promise32() {
        Check.part("promise 32, drawn");
        JudgeHalves x = Check.of("l1,60;j0,0;t0,1;");
        int[] due = {0, 1, 1, 1, 1, 1, 2, 4, 6, 8, 10};
        for (int n = 0; n < due.length; n++) {
            Check.due("drawn(" + n + ", 1, 0)", x.drawn(n, 1, 0), due[n]);
            Check.due("drawn(" + n + ", 1, 1)", x.drawn(n, 1, 1), 0);
        }
        Check.due("drawn(60, 999999, 1)", Check.of("l1,1;j0,0;t0,1;").drawn(60, 999999, 1), 1);
        Check.due("drawn(61, 1, 0)", x.drawn(61, 1, 0), Check.BAD);
        Check.due("drawn(-1, 1, 0)", x.drawn(-1, 1, 0), Check.BAD);
        Check.due("drawn(1, 0, 0)", x.drawn(1, 0, 0), Check.BAD);
        Check.due("drawn(1, 1000000, 0)", x.drawn(1, 1000000, 0), Check.BAD);
        Check.due("drawn(1, 1, 2)", x.drawn(1, 1, 2), Check.BAD);
        Check.due("drawn(1, 1, -1)", x.drawn(1, 1, -1), Check.BAD);
        Check.due("drawn(61, 0, 2), no circuit", new JudgeHalves().drawn(61, 0, 2), Check.STATE);
    }

    private static void promise33And34() {
        Check.part("promises 33 and 34, image and restore");
        JudgeHalves x = new JudgeHalves();
        Check.due("image(0), no circuit", x.image(0), Check.STATE);
        Check.due("image(2), no circuit", x.image(2), Check.BAD);
        Check.fed(x, MANY).circuit();
        Check.due("restore(0), none", x.restore(0), Check.STATE);
        Check.due("restore(2)", x.restore(2), Check.BAD);
        Check.due("restore(-1)", x.restore(-1), Check.BAD);
        Check.due("image(-1)", x.image(-1), Check.BAD);
        x.years(3);
        Check.due("image(1)", x.image(1), 1);
        Check.due("count(6), no act", x.count(6), 3);
        Check.due("restore(0), none yet", x.restore(0), Check.STATE);
        x.severe(0, 0);
        x.years(20);
        Check.fed(x, QUEUE).circuit();
        Check.due("image(0)", x.image(0), 1);
        x.gate(0, 1);
        Check.due("restore(1)", x.restore(1), 1);
        Check.due("count(6), none can be undone", x.count(6), 0);
        Check.due("undo()", x.undo(), Check.STATE);
        Check.due("count(3)", x.count(3), 3);
        Check.due("stand(3)", x.stand(3), 9);
        Check.due("stand(4)", x.stand(4), 4);
        Check.due("judge(0, 0)", x.judge(0, 0), 6);
        Check.due("kind(4)", x.kind(4), 5);
        x.years(1);
        Check.due("restore(0)", x.restore(0), 1);
        Check.due("count(1)", x.count(1), 3);
        Check.due("judge(0, 1)", x.judge(0, 1), 0);
        Check.due("restore(1), kept yet", x.restore(1), 1);
        Check.due("count(3)", x.count(3), 3);
    }

    private static void nothingChanges() {
        Check.part("what is foretold changes nothing");
        JudgeHalves x = Check.of(MANY);
        x.years(1);
        x.ahead(0, 60, 0);
        x.by(0, 60);
        x.when(2, 3);
        x.sending(30, -1);
        x.gates(30, 0);
        x.let(30, 0);
        x.byTurns(0, 1, 4, 20);
        x.fence(0, 8, 5, 0);
        x.drawn(60, 77, 0);
        Check.due("count(3)", x.count(3), 1);
        Check.due("count(4)", x.count(4), 16);
        Check.due("count(6)", x.count(6), 1);
        Check.due("stand(1)", x.stand(1), 11);
        Check.due("man(0, 2)", x.man(0, 2), 2);
        Check.due("judge(1, 1)", x.judge(1, 1), 0);
        Check.due("judge(1, 3)", x.judge(1, 3), 32);
    }
}
