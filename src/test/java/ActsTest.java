/** Promises 9 to 18: years, acts, what they leave, and how they are undone. */
public final class ActsTest {
    /** Growth by judge 0: a thief 4 - 2 + 1; by judge 1: 4; by judge 2: one wronged 9, a boy 10. */
    private static final String MANY = "l4,9;j6,1;j2,0;j9,1;t0,3;f1,5;s0,4;w2,2;b2,6;t1,1;";
    /** One house, 1 trust a year, nobody settles: out behind 2, 5 and 6 years. */
    private static final String QUEUE = "l1,60;j0,0;t0,2;t0,3;s0,1;";

    public static void main(String[] args) {
        promise9();
        promise9Forgets();
        promise10();
        promise10Limits();
        promise11();
        promise12();
        promise13And14();
        promise15();
        promise16();
        promise16Growth();
        promise17();
        promise18();
        mostTrust();
        sameAgain();
        Check.end();
    }

    private static void promise9() {
        Check.part("promise 9, undo");
        JudgeHalves x = Check.of(MANY);
        Check.due("undo(), none", x.undo(), Check.STATE);
        x.send(5, 2);
        x.sentence(0, 7);
        x.gate(0, 0);
        x.severe(2, 1);
        x.years(2);
        Check.due("count(6)", x.count(6), 6);
        Check.due("undo(), a year", x.undo(), 5);
        Check.due("count(3)", x.count(3), 1);
        Check.due("man(0, 2)", x.man(0, 2), 6);
        Check.due("man(0, 3)", x.man(0, 3), 2);
        Check.due("undo(), a year", x.undo(), 4);
        Check.due("man(0, 1)", x.man(0, 1), 0);
        Check.due("man(0, 3)", x.man(0, 3), 0);
        Check.due("undo(), severe", x.undo(), 3);
        Check.due("judge(2, 0)", x.judge(2, 0), 9);
        Check.due("undo(), a gate", x.undo(), 2);
        Check.due("judge(0, 1)", x.judge(0, 1), 1);
        Check.due("undo(), a sentence", x.undo(), 1);
        Check.due("man(0, 2)", x.man(0, 2), 3);
        Check.due("undo(), one sent", x.undo(), 0);
        Check.due("man(5, 0)", x.man(5, 0), 1);
        Check.due("undo(), none", x.undo(), Check.STATE);
        JudgeHalves y = Check.of(QUEUE);
        y.years(2);
        y.retry(0, 0, 9);
        Check.due("undo(), one tried again", y.undo(), 2);
        Check.due("man(0, 1)", y.man(0, 1), 2);
        Check.due("man(0, 2)", y.man(0, 2), 0);
    }

    private static void promise9Forgets() {
        Check.part("promise 9, 24 acts are kept");
        JudgeHalves x = Check.of("l1,60;j0,0;f0,1;");
        x.severe(0, 1);
        x.severe(0, 2);
        x.severe(0, 3);
        Check.due("years(24)", x.years(24), 0);
        Check.due("count(6)", x.count(6), 24);
        x.severe(0, 5);
        Check.due("count(6)", x.count(6), 24);
        for (int left = 23; left >= 0; left--) {
            Check.due("undo()", x.undo(), left);
        }
        Check.due("undo()", x.undo(), Check.STATE);
        Check.due("count(3), the first year is forgotten", x.count(3), 1);
        Check.due("judge(0, 0)", x.judge(0, 0), 3);
        x.severe(0, 7);
        Check.due("undo()", x.undo(), 0);
        Check.due("judge(0, 0)", x.judge(0, 0), 3);
    }

    private static void promise10() {
        Check.part("promise 10, years");
        JudgeHalves x = Check.of(MANY);
        Check.due("years(2)", x.years(2), 8);
        Check.due("man(3, 3)", x.man(3, 3), 18);
        Check.due("years(1)", x.years(1), 9);
        Check.due("man(0, 3)", x.man(0, 3), 9);
        Check.due("man(1, 3)", x.man(1, 3), 12);
        Check.due("man(1, 2), for life", x.man(1, 2), 5);
        Check.due("years(24)", x.years(24), 9);
        Check.due("man(1, 1), for life", x.man(1, 1), 1);
        Check.due("man(2, 1), waits for good", x.man(2, 1), 0);
        Check.due("man(0, 3), settled", x.man(0, 3), 9);
        Check.due("count(3)", x.count(3), 27);
        JudgeHalves q = Check.of(QUEUE);
        int[] outs = {0, 0, 1, 1, 1, 3, 7};
        for (int year = 1; year <= 6; year++) {
            Check.due("years(1)", q.years(1), 0);
            Check.due("stand(2) behind " + year, q.stand(2), outs[year]);
        }
        Check.due("man(2, 3), sung in the odd year 5", q.man(2, 3), 2);
    }

    private static void promise10Limits() {
        Check.part("promise 10, limits");
        JudgeHalves x = new JudgeHalves();
        Check.due("years(0), no circuit", x.years(0), Check.STATE);
        Check.fed(x, QUEUE).circuit();
        Check.due("years(0)", x.years(0), Check.BAD);
        Check.due("years(25)", x.years(25), Check.BAD);
        Check.due("years(min)", x.years(Integer.MIN_VALUE), Check.BAD);
        for (int i = 0; i < 41; i++) {
            x.years(24);
        }
        Check.due("count(3)", x.count(3), 984);
        Check.due("years(16)", x.years(16), Check.FULL);
        Check.due("years(25)", x.years(25), Check.BAD);
        Check.due("count(3)", x.count(3), 984);
        Check.due("years(15)", x.years(15), 0);
        Check.due("count(3)", x.count(3), 999);
        Check.due("years(1)", x.years(1), Check.FULL);
        Check.due("undo()", x.undo(), 23);
        Check.due("years(1)", x.years(1), 0);
    }

    private static void promise11() {
        Check.part("promise 11, send");
        JudgeHalves x = Check.of(MANY);
        Check.due("send(2, 1)", x.send(2, 1), 0);
        Check.due("send(2, 2)", x.send(2, 2), 1);
        Check.due("man(2, 0)", x.man(2, 0), 2);
        Check.due("judge(2, 3)", x.judge(2, 3), 28);
        Check.due("send(6, 0)", x.send(6, 0), Check.BAD);
        Check.due("send(-1, 0)", x.send(-1, 0), Check.BAD);
        Check.due("send(0, 3)", x.send(0, 3), Check.BAD);
        Check.due("send(0, -1)", x.send(0, -1), Check.BAD);
        x.years(3);
        Check.due("send(1, 0), beside", x.send(1, 0), Check.STATE);
        Check.due("send(0, 1), settled", x.send(0, 1), Check.STATE);
        Check.due("send(0, 9), settled", x.send(0, 9), Check.BAD);
        Check.due("count(6)", x.count(6), 5);
    }

    private static void promise12() {
        Check.part("promise 12, sentence");
        JudgeHalves x = Check.of(QUEUE);
        Check.due("sentence(1, 30)", x.sentence(1, 30), 3);
        Check.due("sentence(1, 1)", x.sentence(1, 1), 30);
        Check.due("sentence(1, 0)", x.sentence(1, 0), Check.BAD);
        Check.due("sentence(1, 31)", x.sentence(1, 31), Check.BAD);
        Check.due("sentence(3, 1)", x.sentence(3, 1), Check.BAD);
        x.years(1);
        Check.due("sentence(0, 5), beside", x.sentence(0, 5), 1);
        x.years(5);
        Check.due("stand(2)", x.stand(2), 1);
        Check.due("sentence(0, 5), out", x.sentence(0, 5), Check.STATE);
        Check.due("sentence(0, 31), out", x.sentence(0, 31), Check.BAD);
        JudgeHalves s = Check.of("l5,1;j0,0;t0,1;");
        s.years(1);
        Check.due("sentence(0, 5), settled", s.sentence(0, 5), Check.STATE);
    }

    private static void promise13And14() {
        Check.part("promises 13 and 14, gate and severe");
        JudgeHalves x = Check.of(MANY);
        Check.due("gate(0, 0)", x.gate(0, 0), 1);
        Check.due("gate(0, 1)", x.gate(0, 1), 0);
        Check.due("judge(0, 1)", x.judge(0, 1), 1);
        Check.due("gate(0, 2)", x.gate(0, 2), Check.BAD);
        Check.due("gate(0, -1)", x.gate(0, -1), Check.BAD);
        Check.due("gate(3, 0)", x.gate(3, 0), Check.BAD);
        Check.due("gate(-1, 0)", x.gate(-1, 0), Check.BAD);
        Check.due("severe(1, 9)", x.severe(1, 9), 2);
        Check.due("severe(1, 0)", x.severe(1, 0), 9);
        Check.due("judge(1, 0)", x.judge(1, 0), 0);
        Check.due("severe(1, 10)", x.severe(1, 10), Check.BAD);
        Check.due("severe(1, -1)", x.severe(1, -1), Check.BAD);
        Check.due("severe(3, 1)", x.severe(3, 1), Check.BAD);
        Check.due("count(6)", x.count(6), 4);
    }

    private static void promise15() {
        Check.part("promise 15, retry");
        JudgeHalves x = Check.of("l1,60;j0,0;j3,1;t0,2;t0,3;s0,1;");
        Check.due("retry(0, 0, 1), waits", x.retry(0, 0, 1), Check.STATE);
        x.years(6);
        Check.due("stand(2)", x.stand(2), 7);
        Check.due("retry(1, 1, 30)", x.retry(1, 1, 30), 5);
        Check.due("man(1, 0)", x.man(1, 0), 1);
        Check.due("man(1, 1)", x.man(1, 1), 0);
        Check.due("man(1, 2)", x.man(1, 2), 30);
        Check.due("man(1, 3), trust stays", x.man(1, 3), 3);
        Check.due("retry(1, 1, 1)", x.retry(1, 1, 1), Check.STATE);
        Check.due("retry(1, 1, 31)", x.retry(1, 1, 31), Check.BAD);
        Check.due("retry(0, 2, 1)", x.retry(0, 2, 1), Check.BAD);
        Check.due("retry(0, 0, 0)", x.retry(0, 0, 0), Check.BAD);
        Check.due("retry(3, 0, 1)", x.retry(3, 0, 1), Check.BAD);
        x.years(1);
        Check.due("man(1, 3)", x.man(1, 3), 4);
    }

    private static void promise16() {
        Check.part("promise 16, man");
        JudgeHalves x = Check.of(MANY);
        x.years(3);
        int[][] due = {{0, 3, 0, 9, 3}, {1, 1, 5, 12, 4}, {0, 0, 4, 0, 6}, {2, 3, 0, 18, 9}, {2, 0, 6, 0, 10}};
        for (int man = 0; man < due.length; man++) {
            for (int what = 0; what < 5; what++) {
                Check.due("man(" + man + ", " + what + ")", x.man(man, what), due[man][what]);
            }
        }
        Check.due("man(0, 5)", x.man(0, 5), Check.BAD);
        Check.due("man(0, -1)", x.man(0, -1), Check.BAD);
        Check.due("man(6, 0)", x.man(6, 0), Check.BAD);
        Check.due("man(-1, 0)", x.man(-1, 0), Check.BAD);
        JudgeHalves q = Check.of(QUEUE);
        q.years(2);
        Check.due("man(0, 2), out", q.man(0, 2), 0);
        Check.due("man(0, 0), out", q.man(0, 0), 0);
    }

    private static void promise16Growth() {
        Check.part("promise 16, by how much trust would be more");
        JudgeHalves x = Check.of("l2,60;j9,1;t0,9;f0,9;s0,9;w0,9;b0,9;");
        int[] open = {1, 1, 1, 9, 10};
        int[] shut = {0, 0, 0, 0, 1};
        for (int man = 0; man < 5; man++) {
            Check.due("man(" + man + ", 4), 2 less 3 is 0, and 1", x.man(man, 4), open[man]);
        }
        x.gate(0, 0);
        for (int man = 0; man < 5; man++) {
            Check.due("man(" + man + ", 4), shut", x.man(man, 4), shut[man]);
        }
        x.severe(0, 5);
        Check.due("man(0, 4), a third of 5 is 1", x.man(0, 4), 1);
        Check.due("man(2, 4), an even year", x.man(2, 4), 1);
        x.years(1);
        Check.due("man(2, 4), an odd year", x.man(2, 4), 2);
        x.gate(0, 1);
        Check.due("man(2, 4), twice with the gate", x.man(2, 4), 4);
    }

    private static void promise17() {
        Check.part("promise 17, judge");
        JudgeHalves x = Check.of(MANY);
        Check.due("judge(0, 2)", x.judge(0, 2), Check.NONE);
        Check.due("judge(0, 3)", x.judge(0, 3), 5);
        x.years(2);
        Check.due("judge(0, 2)", x.judge(0, 2), 0);
        Check.due("judge(2, 2), settled", x.judge(2, 2), 3);
        Check.due("judge(2, 3)", x.judge(2, 3), 16);
        Check.due("judge(1, 0)", x.judge(1, 0), 2);
        Check.due("judge(1, 1)", x.judge(1, 1), 0);
        Check.due("judge(0, 4)", x.judge(0, 4), Check.BAD);
        Check.due("judge(0, -1)", x.judge(0, -1), Check.BAD);
        Check.due("judge(3, 0)", x.judge(3, 0), Check.BAD);
        JudgeHalves q = Check.of(QUEUE);
        q.years(2);
        Check.due("judge(0, 2), who was there is out", q.judge(0, 2), Check.NONE);
        Check.due("judge(0, 3)", q.judge(0, 3), 6);
    }

    private static void promise18() {
        Check.part("promise 18, stand");
        JudgeHalves x = Check.of(MANY);
        Check.due("stand(0)", x.stand(0), 63);
        x.years(3);
        int[] due = {52, 2, 0, 9, 4, 9};
        for (int what = 0; what < 6; what++) {
            Check.due("stand(" + what + ")", x.stand(what), due[what]);
        }
        Check.due("stand(6)", x.stand(6), Check.BAD);
        Check.due("stand(-1)", x.stand(-1), Check.BAD);
        Check.due("stand(6), no circuit", new JudgeHalves().stand(6), Check.STATE);
    }

    private static void mostTrust() {
        Check.part("trust is 99 at most");
        JudgeHalves x = Check.of("l9,60;j0,1;f0,1;");
        x.years(9);
        Check.due("man(0, 3)", x.man(0, 3), 90);
        x.years(1);
        Check.due("man(0, 3)", x.man(0, 3), 99);
        x.years(1);
        Check.due("man(0, 3)", x.man(0, 3), 99);
        Check.due("count(4)", x.count(4), 99);
    }

    /** A call that is not refused is an act, even if all is as it was. */
    private static void sameAgain() {
        Check.part("what is set to what it was");
        JudgeHalves x = Check.of(QUEUE);
        Check.due("send(0, 0)", x.send(0, 0), 0);
        Check.due("gate(0, 0)", x.gate(0, 0), 0);
        Check.due("severe(0, 0)", x.severe(0, 0), 0);
        Check.due("sentence(0, 2)", x.sentence(0, 2), 2);
        Check.due("count(6)", x.count(6), 4);
    }
}
