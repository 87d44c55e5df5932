/** Promises 6 to 8: the tape, what is read from it, and its faults. */
public final class TextsTest {
    private static final String WHOLE = "l4,9;j6,1;j2,0;j9,1;t0,3;f1,5;s0,4;w2,2;b2,6;t1,1;";

    public static void main(String[] args) {
        promise6();
        promise7();
        promise7Keeps();
        promise8();
        faults();
        faultsOfNumbers();
        faultsOfRoom();
        Check.end();
    }

    private static void promise6() {
        Check.part("promise 6, feed");
        JudgeHalves x = new JudgeHalves();
        Check.due("feed(-1)", x.feed(-1), Check.BAD);
        Check.due("feed(256)", x.feed(256), Check.BAD);
        Check.due("feed(0)", x.feed(0), 1);
        Check.due("feed(255)", x.feed(255), 2);
        for (int i = 2; i < 120; i++) {
            Check.due("feed(108)", x.feed(108), i + 1);
        }
        Check.due("feed(108), full", x.feed(108), Check.FULL);
        Check.due("feed(256), full", x.feed(256), Check.BAD);
        Check.due("count(7)", x.count(7), 120);
        Check.due("circuit()", x.circuit(), -1000100);
        Check.due("count(7), empty then", x.count(7), 0);
        Check.due("feed(108)", x.feed(108), 1);
    }

    private static void promise7() {
        Check.part("promise 7, circuit");
        JudgeHalves x = Check.fed(new JudgeHalves(), WHOLE);
        Check.due("circuit()", x.circuit(), 6);
        Check.due("count(1)", x.count(1), 6);
        Check.due("count(2)", x.count(2), 3);
        Check.due("count(5)", x.count(5), 6);
        Check.due("stand(4)", x.stand(4), 4);
        Check.due("stand(5)", x.stand(5), 9);
        Check.due("judge(1, 0)", x.judge(1, 0), 2);
        Check.due("judge(2, 1)", x.judge(2, 1), 1);
        Check.due("man(4, 0)", x.man(4, 0), 2);
        Check.due("man(4, 2)", x.man(4, 2), 6);
        int[] kinds = {1, 2, 3, 4, 5, 1};
        for (int man = 0; man < 6; man++) {
            Check.due("kind(" + man + ")", x.kind(man), kinds[man]);
        }
        Check.due("figures with a 0 ahead", Check.fed(new JudgeHalves(), "l09,07;j00,01;t00,03;").circuit(), 1);
        String most = "l9,60;j9,1;j9,1;j9,1;j9,1;t3,30;t3,30;t3,30;t3,30;t3,30;t3,30;";
        Check.due("as much as there is room for", Check.fed(new JudgeHalves(), most).circuit(), 6);
    }

    private static void promise7Keeps() {
        Check.part("promise 7, what stays and what does not");
        JudgeHalves x = Check.of(WHOLE);
        x.years(2);
        x.gate(1, 1);
        Check.fed(x, "l1,1;j0,0;x");
        Check.due("circuit(), a fault", x.circuit(), -1000110);
        Check.due("count(1)", x.count(1), 6);
        Check.due("count(2)", x.count(2), 3);
        Check.due("count(3)", x.count(3), 2);
        Check.due("count(6)", x.count(6), 3);
        Check.due("stand(3)", x.stand(3), 8);
        Check.fed(x, "l2,4;j5,1;t0,2;");
        Check.due("circuit(), another", x.circuit(), 1);
        Check.due("count(2)", x.count(2), 1);
        Check.due("count(3)", x.count(3), 0);
        Check.due("count(4)", x.count(4), 0);
        Check.due("count(6)", x.count(6), 0);
        Check.due("undo()", x.undo(), Check.STATE);
        Check.due("man(1, 0)", x.man(1, 0), Check.BAD);
        Check.due("judge(1, 0)", x.judge(1, 0), Check.BAD);
    }

    private static void promise8() {
        Check.part("promise 8, fault");
        JudgeHalves x = new JudgeHalves();
        Check.due("fault(), before one", x.fault(), 0);
        Check.fed(x, WHOLE).circuit();
        Check.due("fault(), before one", x.fault(), 0);
        Check.fed(x, "l0").circuit();
        Check.due("fault()", x.fault(), 2);
        Check.fed(x, WHOLE).circuit();
        Check.due("fault() stays", x.fault(), 2);
        x.circuit();
        Check.due("fault()", x.fault(), 1);
    }

    private static void faults() {
        Check.part("promises 7 and 8, fault 1");
        fault("", 0, 1);
        fault("l", 1, 1);
        fault("k1,1;", 0, 1);
        fault("L1,1;", 0, 1);
        fault("1,1;", 0, 1);
        fault("l,1;", 1, 1);
        fault("l1;1;", 2, 1);
        fault("l1 ,1;", 2, 1);
        fault("l1,a;", 3, 1);
        fault("l1,1,", 4, 1);
        fault("l1,1;", 5, 1);
        fault("l1,1;t0,1;", 5, 1);
        fault("l1,1;l1,1;", 5, 1);
        fault("l1,1;j0,0;", 10, 1);
        fault("l1,1;j0,0;l", 10, 1);
        fault("l1,1;j0,0;t0,1;j0,0;", 15, 1);
        fault("l1,1;j0,0;t0,1; ", 15, 1);
        fault("l1,1;j0,0;t0,1;5", 15, 1);
        fault("l1,1;j0,0;t0,1", 14, 1);
        fault("l1,1;j0,0;tt0,1;", 11, 1);
        fault("l1,1;j0,0;t0,1;\u00ff", 15, 1);
        fault("l1,1;j0,0;t0,1;\u0000", 15, 1);
        fault("\u0000", 0, 1);
        fault("l1,1;j0,0;a0,1;", 10, 1);
        fault("l1,1;j0,0;z0,1;", 10, 1);
    }

    private static void faultsOfNumbers() {
        Check.part("promises 7 and 8, numbers");
        fault("l0,1;", 1, 2);
        fault("l10,1;", 1, 2);
        fault("l00,1;", 1, 2);
        fault("l100,1;", 1, 1);
        fault("l0001,1;", 1, 1);
        fault("123", 0, 1);
        fault("l1,1;j0,0;t0,1;999", 15, 1);
        fault("l1,0;", 3, 2);
        fault("l1,61;", 3, 2);
        fault("l1,1;j10,0;", 6, 2);
        fault("l1,1;j9,2;", 8, 2);
        fault("l1,1;j0,0;t1,1;", 11, 2);
        fault("l1,1;j0,0;j0,0;t2,1;", 16, 2);
        fault("l1,1;j0,0;t0,0;", 13, 2);
        fault("l1,1;j0,0;t0,31;", 13, 2);
        fault("l1,1;j0,0;t0,300;", 13, 1);
        fault("l1,0;j", 3, 2);
    }

    private static void faultsOfRoom() {
        Check.part("promises 7 and 8, fault 3");
        String judges = "l1,1;j0,0;j0,0;j0,0;j0,0;";
        fault(judges + "j0,0;t0,1;", 25, 3);
        fault(judges + "j", 25, 3);
        fault(judges, 25, 1);
        fault(judges + "k", 25, 1);
        String men = "l1,1;j0,0;t0,1;t0,1;t0,1;t0,1;t0,1;t0,1;";
        fault(men + "b0,1;", 40, 3);
        fault(men + "w", 40, 3);
        fault(men + "j0,0;", 40, 1);
        fault(men + ";", 40, 1);
        fault(men + "7", 40, 1);
    }

    private static void fault(String text, int place, int number) {
        JudgeHalves x = Check.fed(new JudgeHalves(), text);
        Check.due("circuit() of " + text, x.circuit(), -1000100 - place);
        Check.due("fault() of " + text, x.fault(), number);
        Check.due("count(1) of " + text, x.count(1), 0);
    }
}
