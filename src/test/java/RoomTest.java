import java.lang.management.ManagementFactory;

/** All calls of a run live in one room: an object is small, and its calls make nothing. */
public final class RoomTest {
    private static final String MOST = "l9,60;j9,1;j0,0;j3,1;j9,0;t0,30;f1,30;s2,30;w3,30;b0,30;s1,30;";

    public static void main(String[] args) {
        Check.part("the room");
        com.sun.management.ThreadMXBean threads = (com.sun.management.ThreadMXBean) ManagementFactory.getThreadMXBean();
        allCalls(new JudgeHalves());
        long before = threads.getCurrentThreadAllocatedBytes();
        JudgeHalves x = new JudgeHalves();
        long made = threads.getCurrentThreadAllocatedBytes();
        for (int i = 0; i < 20; i++) {
            allCalls(x);
        }
        long called = threads.getCurrentThreadAllocatedBytes();
        Check.holds("a new object takes " + (made - before) + " bytes, 32000 at most", made - before <= 32000);
        Check.holds("all calls make hardly anything: " + (called - made) + " bytes", called - made <= 4096);
        Check.end();
    }

    private static void allCalls(JudgeHalves x) {
        for (int i = 0; i < MOST.length(); i++) {
            x.feed(MOST.charAt(i));
        }
        x.circuit();
        x.circuit();
        x.fault();
        x.row(0, 2, 40);
        x.row(1, 2, 40);
        x.set(0, 0, 7);
        x.copy(0, 0, 1, 3, 20);
        x.send(0, 1);
        x.sentence(0, 2);
        x.gate(0, 0);
        x.severe(0, 1);
        x.years(24);
        x.retry(0, 0, 3);
        for (int what = -1; what < 9; what++) {
            x.man(0, what);
            x.judge(0, what);
            x.stand(what);
            x.count(what);
            x.closest(0, what);
            x.trace(what);
        }
        x.restore(0);
        x.image(0);
        x.undo();
        foretell(x);
        x.drop(0);
        x.status();
    }

    private static void foretell(JudgeHalves x) {
        x.ahead(0, 60, 0);
        x.by(0, 60);
        x.when(0, 3);
        x.sending(30, -1);
        x.gates(30, 0);
        x.let(30, 0);
        x.share(0, 999);
        x.byTurns(0, 1, 4, 20);
        x.who(0, 0, 0, 0, 12);
        x.who(0, 1, 0, 0, 12);
        x.severes(0, 0, 0, 0, 12);
        x.likes(0, 0, 0, 0, 12);
        x.fence(0, 8, 5, 0);
        x.drawn(60, 999999, 0);
        for (int one = 0; one < 6; one++) {
            x.kind(one);
            x.as(one, 4);
            x.ask(one, 0);
            x.ask(one, 1);
        }
    }
}
