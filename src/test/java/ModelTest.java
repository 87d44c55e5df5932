import java.util.Random;

/** Runs of drawn calls, whose answers are held against those of the model; the draws are the same each time. */
public final class ModelTest {
    private static final int RUNS = 400, CALLS = 500;

    private static Random draws;
    private static JudgeHalves x;
    private static Model model;
    private static int left;

    public static void main(String[] args) {
        for (int run = 0; run < RUNS && Check.wrong() < 20; run++) {
            Check.part("run " + run);
            draws = new Random(run);
            x = new JudgeHalves();
            model = new Model();
            left = CALLS;
            while (left > 0 && Check.wrong() < 20) {
                step();
            }
        }
        texts();
        Check.end();
    }

    private static int any(int a, int b) {
        return a + draws.nextInt(b - a + 1);
    }

    /** A number of a range, now and then one beside it. */
    private static int near(int a, int b) {
        int kind = draws.nextInt(40);
        if (kind == 0) {
            return a - 1;
        }
        if (kind == 1) {
            return b + 1;
        }
        if (kind == 2) {
            return draws.nextInt();
        }
        return any(a, b);
    }

    private static int man() {
        return near(0, Math.max(0, model.count(1) - 1));
    }

    private static int judge() {
        return near(0, Math.max(0, model.count(2) - 1));
    }

    private static void due(String call, long got, long want) {
        left--;
        Check.due(call, got, want);
    }

    private static void feed(String text) {
        for (int i = 0; i < text.length(); i++) {
            int c = text.charAt(i);
            due("feed(" + c + ")", x.feed(c), model.feed(c));
        }
    }

    private static String text() {
        int most = draws.nextInt(3);
        StringBuilder s = new StringBuilder();
        s.append('l').append(most == 0 ? any(1, 9) : any(1, 4)).append(',').append(any(1, most == 1 ? 12 : 60)).append(';');
        int judges = any(1, 4);
        for (int j = 0; j < judges; j++) {
            s.append('j').append(any(0, 9)).append(',').append(any(0, 1)).append(';');
        }
        int men = draws.nextInt(3) == 0 ? any(1, 6) : 6;
        for (int m = 0; m < men; m++) {
            s.append("tfswb".charAt(draws.nextInt(5))).append(any(0, judges - 1)).append(',')
                .append(any(1, most == 2 ? 30 : 6)).append(';');
        }
        return s.toString();
    }

    private static String broken(String text) {
        StringBuilder s = new StringBuilder(text);
        String letters = "ljtfswb,;0123456789 xA";
        int place = draws.nextInt(s.length());
        char c = letters.charAt(draws.nextInt(letters.length()));
        switch (draws.nextInt(4)) {
            case 0: s.deleteCharAt(place); break;
            case 1: s.insert(place, c); break;
            case 2: s.setCharAt(place, c); break;
            default: s.setLength(place);
        }
        return s.toString();
    }

    private static void texts() {
        draws = new Random(4711);
        for (int i = 0; i < 20000 && Check.wrong() < 20; i++) {
            x = new JudgeHalves();
            model = new Model();
            String text = text();
            for (int k = draws.nextInt(4); k > 0 && text.length() > 0; k--) {
                text = broken(text);
            }
            Check.part("text " + text);
            feed(text);
            due("circuit()", x.circuit(), model.circuit());
            due("fault()", x.fault(), model.fault());
            due("count(1)", x.count(1), model.count(1));
        }
    }

    private static void step() {
        if (model.count(1) == 0 && draws.nextInt(10) > 0 || draws.nextInt(150) == 0) {
            String text = text();
            feed(draws.nextInt(6) == 0 ? broken(text) : text);
            due("circuit()", x.circuit(), model.circuit());
            return;
        }
        switch (draws.nextInt(7)) {
            case 0: rows(); break;
            case 1: told(); break;
            case 2: acts(); break;
            case 3: looks(); break;
            case 4: foretold(); break;
            case 5: fits(); break;
            default: asks();
        }
    }

    private static void rows() {
        int a = near(0, 7);
        int b = near(0, 3);
        int c = near(0, 3);
        int i = near(0, 6);
        int j = near(0, 6);
        int n = near(0, 5);
        switch (draws.nextInt(5)) {
            case 0: {
                int lane = draws.nextInt(4) == 0 ? near(0, 2) : 2;
                int size = near(0, draws.nextBoolean() ? 40 : 8);
                due("row(" + a + ", " + lane + ", " + size + ")", x.row(a, lane, size), model.row(a, lane, size));
                break;
            }
            case 1: {
                int v = draws.nextBoolean() ? draws.nextInt() : any(-300, 300);
                due("set(" + b + ", " + i + ", " + v + ")", x.set(b, i, v), model.set(b, i, v));
                break;
            }
            case 2: due("drop(" + a + ")", x.drop(a), model.drop(a)); break;
            default: due("copy(" + b + ", " + i + ", " + c + ", " + j + ", " + n + ")",
                x.copy(b, i, c, j, n), model.copy(b, i, c, j, n));
        }
        due("status()", x.status(), model.status());
    }

    private static void told() {
        int k = near(0, 1);
        switch (draws.nextInt(8)) {
            case 0: due("fault()", x.fault(), model.fault()); break;
            case 1: {
                int c = near(0, 255);
                due("feed(" + c + ")", x.feed(c), model.feed(c));
                break;
            }
            case 2: due("circuit()", x.circuit(), model.circuit()); break;
            case 3: due("image(" + k + ")", x.image(k), model.image(k)); break;
            case 4: due("restore(" + k + ")", x.restore(k), model.restore(k)); break;
            default:
                for (int i = draws.nextInt(30) == 0 ? 30 : 1; i > 0; i--) {
                    due("undo()", x.undo(), model.undo());
                }
        }
    }

    private static void acts() {
        int m = man();
        int j = judge();
        int y = near(1, draws.nextBoolean() ? 30 : 5);
        switch (draws.nextInt(8)) {
            case 0: due("send(" + m + ", " + j + ")", x.send(m, j), model.send(m, j)); break;
            case 1: due("sentence(" + m + ", " + y + ")", x.sentence(m, y), model.sentence(m, y)); break;
            case 2: {
                int open = near(0, 1);
                due("gate(" + j + ", " + open + ")", x.gate(j, open), model.gate(j, open));
                break;
            }
            case 3: {
                int v = near(0, 9);
                due("severe(" + j + ", " + v + ")", x.severe(j, v), model.severe(j, v));
                break;
            }
            case 4: due("retry(" + m + ", " + j + ", " + y + ")", x.retry(m, j, y), model.retry(m, j, y)); break;
            default: {
                int n = near(1, draws.nextInt(4) == 0 ? 24 : 3);
                due("years(" + n + ")", x.years(n), model.years(n));
            }
        }
    }

    private static void looks() {
        int m = man();
        int j = judge();
        for (int what = -1; what <= 6; what++) {
            due("stand(" + what + ")", x.stand(what), model.stand(what));
            due("man(" + m + ", " + what + ")", x.man(m, what), model.man(m, what));
            due("judge(" + j + ", " + what + ")", x.judge(j, what), model.judge(j, what));
        }
        for (int what = -1; what <= 8; what++) {
            due("count(" + what + ")", x.count(what), model.count(what));
        }
    }

    private static void foretold() {
        int m = man();
        int j = judge();
        int n60 = near(0, 60);
        int n30 = near(1, draws.nextBoolean() ? 30 : 6);
        int what = near(0, 1);
        switch (draws.nextInt(11)) {
            case 0: {
                int w = near(0, 2);
                due("ahead(" + m + ", " + n60 + ", " + w + ")", x.ahead(m, n60, w), model.ahead(m, n60, w));
                break;
            }
            case 1: due("by(" + j + ", " + n60 + ")", x.by(j, n60), model.by(j, n60)); break;
            case 2: {
                int how = near(1, 3);
                due("when(" + m + ", " + how + ")", x.when(m, how), model.when(m, how));
                break;
            }
            case 3: {
                int who = draws.nextInt(3) == 0 ? -1 : m;
                due("sending(" + n30 + ", " + who + ")", x.sending(n30, who), model.sending(n30, who));
                break;
            }
            case 4: due("gates(" + n30 + ", " + what + ")", x.gates(n30, what), model.gates(n30, what)); break;
            case 5: due("let(" + n30 + ", " + what + ")", x.let(n30, what), model.let(n30, what)); break;
            case 6: due("closest(" + j + ", " + what + ")", x.closest(j, what), model.closest(j, what)); break;
            case 7: {
                int n = near(0, 999);
                due("share(" + m + ", " + n + ")", x.share(m, n), model.share(m, n));
                break;
            }
            case 8: {
                int o = judge();
                int n = near(0, 4);
                int y = near(1, 20);
                due("byTurns(" + j + ", " + o + ", " + n + ", " + y + ")", x.byTurns(j, o, n, y), model.byTurns(j, o, n, y));
                break;
            }
            case 9: {
                int n = near(0, 8);
                int p = near(0, 10);
                due("fence(" + m + ", " + n + ", " + p + ", " + what + ")", x.fence(m, n, p, what), model.fence(m, n, p, what));
                break;
            }
            default: {
                int seed = near(1, 999999);
                due("drawn(" + n60 + ", " + seed + ", " + what + ")", x.drawn(n60, seed, what), model.drawn(n60, seed, what));
            }
        }
    }

    /** Rows tell what the model foresees, of the same man or of one changed, so that much fits. */
    private static void fits() {
        int m = man();
        int j = judge();
        int r = near(0, 3);
        int i = near(0, 4);
        int n = near(1, draws.nextBoolean() ? 12 : 3);
        if (model.count(1) > 0 && draws.nextInt(5) > 0 && m >= 0 && m < model.count(1) && r >= 0 && r < 8) {
            due("row(" + r + ", 2, 20)", x.row(r, 2, 20), model.row(r, 2, 20));
            Model.World w = model.now.copy();
            change(w, m);
            for (int y = 1; y <= n && y <= 12 && i >= 0 && i < 6; y++) {
                int v = w.then(y).men.get(m).trust;
                due("set(" + r + ", " + (i + y - 1) + ", " + v + ")", x.set(r, i + y - 1, v), model.set(r, i + y - 1, v));
            }
        }
        int which = near(0, 2);
        String tail = ", " + r + ", " + i + ", " + n + ")";
        due("who(" + m + ", " + which + tail, x.who(m, which, r, i, n), model.who(m, which, r, i, n));
        due("severes(" + j + ", " + m + tail, x.severes(j, m, r, i, n), model.severes(j, m, r, i, n));
        due("likes(" + m + ", " + which + tail, x.likes(m, which, r, i, n), model.likes(m, which, r, i, n));
        due("status()", x.status(), model.status());
    }

    private static void change(Model.World w, int m) {
        switch (draws.nextInt(5)) {
            case 0: w.men.get(m).kind = any(1, 5); break;
            case 1: w.men.get(m).trust = any(0, 99); break;
            case 2: w.judges.get(w.men.get(m).judge)[0] = any(0, 9); break;
            case 3: w.like = any(1, 60); break;
            default:
        }
    }

    private static void asks() {
        int m = man();
        int what = near(0, 1);
        int kind = near(0, 5);
        due("kind(" + m + ")", x.kind(m), model.kind(m));
        due("as(" + m + ", " + kind + ")", x.as(m, kind), model.as(m, kind));
        due("status()", x.status(), model.status());
        due("ask(" + m + ", " + what + ")", x.ask(m, what), model.ask(m, what));
        for (int i = -1; i < 7; i++) {
            due("trace(" + i + ")", x.trace(i), model.trace(i));
        }
    }
}
