import java.math.BigInteger;
import java.util.ArrayDeque;
import java.util.ArrayList;
import java.util.Arrays;
import java.util.List;

/**
 * The document once more, as slow and as plain as can be: ways are all tried whole, year by year,
 * judge by judge; kinds are classes. It is there to be held against the program.
 */
final class Model {
    static final int NONE = -1000000, BAD = -1000001, STATE = -1000002, FULL = -1000003;

    static class Man implements Cloneable {
        int number, kind, judge, how, years, trust;

        Man copy() {
            try {
                return (Man) super.clone();
            } catch (CloneNotSupportedException e) {
                throw new IllegalStateException(e);
            }
        }
    }

    static class World {
        int beans, like, year;
        List<int[]> judges = new ArrayList<>();
        List<Man> men = new ArrayList<>();

        World copy() {
            World w = new World();
            w.beans = beans;
            w.like = like;
            w.year = year;
            for (int[] j : judges) {
                w.judges.add(j.clone());
            }
            for (Man m : men) {
                w.men.add(m.copy());
            }
            return w;
        }

        int growth(Man m) {
            int severe = judges.get(m.judge)[0];
            boolean open = judges.get(m.judge)[1] == 1;
            int thief = beans - severe / 3;
            if (thief < 0) {
                thief = 0;
            }
            if (open) {
                thief++;
            }
            int wronged = open ? severe : 0;
            if (m.kind == 1 || m.kind == 2) {
                return thief;
            }
            if (m.kind == 3) {
                return year % 2 != 0 ? thief + thief : thief;
            }
            return m.kind == 4 ? wronged : wronged + 1;
        }

        Man neighbour(int j) {
            for (Man m : men) {
                if (m.judge == j && (m.how == 1 || m.how == 3)) {
                    return m;
                }
            }
            return null;
        }

        void pass(boolean mended) {
            for (int j = 0; j < judges.size(); j++) {
                if (neighbour(j) != null) {
                    continue;
                }
                for (Man m : men) {
                    if (m.judge == j && m.how == 0) {
                        m.how = 1;
                        break;
                    }
                }
            }
            for (Man m : men) {
                if (m.how != 1) {
                    continue;
                }
                if (!mended) {
                    m.trust += growth(m);
                    if (m.trust > 99) {
                        m.trust = 99;
                    }
                }
                if (m.kind != 2) {
                    m.years--;
                    if (m.years == 0) {
                        m.how = m.trust >= like ? 3 : 2;
                    }
                }
            }
            year++;
        }

        World then(int n) {
            World w = copy();
            for (int i = 0; i < n; i++) {
                w.pass(false);
            }
            return w;
        }

        int set(int how) {
            int bits = 0;
            for (Man m : men) {
                if (m.how == how) {
                    bits += 1 << m.number;
                }
            }
            return bits;
        }

        int trust() {
            return men.stream().mapToInt(m -> m.trust).sum();
        }

        int trust(int judge) {
            return men.stream().filter(m -> m.judge == judge).mapToInt(m -> m.trust).sum();
        }
    }

    World now;
    int[][] items = new int[8][];
    int[] lanes = new int[8];
    StringBuilder tape = new StringBuilder();
    int fault, status;
    ArrayDeque<World> past = new ArrayDeque<>();
    World[] images = new World[2];
    List<Integer> trace = new ArrayList<>();

    private static boolean in(int v, int a, int b) {
        return a <= v && v <= b;
    }

    private boolean isMan(int m) {
        return now != null && in(m, 0, now.men.size() - 1);
    }

    private boolean isJudge(int j) {
        return now != null && in(j, 0, now.judges.size() - 1);
    }

    private int found(int k) {
        status = k;
        return -1000010 - k;
    }

    private int fine(int v) {
        status = 0;
        return v;
    }

    private void act() {
        past.addLast(now.copy());
        if (past.size() > 24) {
            past.removeFirst();
        }
    }

    int row(int r, int lane, int n) {
        if (!in(r, 0, 7) || !in(lane, 0, 2) || n > 40) {
            return BAD;
        }
        if (n < 0) {
            return found(4);
        }
        items[r] = new int[n];
        lanes[r] = lane;
        return fine(n);
    }

    int set(int r, int i, int v) {
        if (!in(r, 0, 7)) {
            return BAD;
        }
        if (items[r] == null) {
            return found(1);
        }
        if (!in(i, 0, items[r].length - 1)) {
            return found(2);
        }
        items[r][i] = lanes[r] == 0 ? (byte) v : lanes[r] == 1 ? (short) v : v;
        return fine(items[r][i]);
    }

    private boolean outside(int r, int i, int n) {
        return i < 0 || n < 0 || (long) i + n > items[r].length;
    }

    int copy(int a, int i, int b, int j, int n) {
        if (!in(a, 0, 7) || !in(b, 0, 7)) {
            return BAD;
        }
        if (items[a] == null || items[b] == null) {
            return found(1);
        }
        if (lanes[a] != lanes[b]) {
            return found(5);
        }
        if (outside(a, i, n) || outside(b, j, n)) {
            return found(2);
        }
        int[] were = items[a].clone();
        for (int k = 0; k < n; k++) {
            items[b][j + k] = were[i + k];
        }
        return fine(n);
    }

    int drop(int r) {
        if (!in(r, 0, 7)) {
            return BAD;
        }
        if (items[r] == null) {
            return found(1);
        }
        int n = items[r].length;
        items[r] = null;
        return fine(n);
    }

    int feed(int c) {
        if (!in(c, 0, 255)) {
            return BAD;
        }
        if (tape.length() == 120) {
            return FULL;
        }
        return tape.append((char) c).length();
    }

    /** Reads by states: what may stand next is told by how many tokens of a clause have been read. */
    int circuit() {
        String text = tape.toString();
        tape.setLength(0);
        World w = new World();
        int at = 0;
        int step = 0;
        char clause = 'l';
        int first = 0;
        int kind = 0;
        while (true) {
            int end = at;
            while (end < text.length() && end - at < 3 && Character.digit(text.charAt(end), 10) >= 0
                && text.charAt(end) < 128) {
                end++;
            }
            int figures = end - at;
            char c = at < text.length() ? text.charAt(at) : 0;
            if (at == text.length()) {
                if (step == 0 && !w.men.isEmpty()) {
                    break;
                }
                return faulty(1, at);
            }
            if (figures > 2) {
                return faulty(1, at);
            }
            if (step == 0) {
                int sort = "tfswb".indexOf(c) + 1;
                if (w.beans == 0) {
                    if (c != 'l') {
                        return faulty(1, at);
                    }
                    clause = 'l';
                } else if (c == 'j' && w.men.isEmpty()) {
                    if (w.judges.size() == 4) {
                        return faulty(3, at);
                    }
                    clause = 'j';
                } else if (sort > 0 && !w.judges.isEmpty()) {
                    if (w.men.size() == 6) {
                        return faulty(3, at);
                    }
                    clause = 'm';
                    kind = sort;
                } else {
                    return faulty(1, at);
                }
                at++;
            } else if (step == 2 || step == 4) {
                if (c != (step == 2 ? ',' : ';')) {
                    return faulty(1, at);
                }
                at++;
            } else {
                if (figures == 0) {
                    return faulty(1, at);
                }
                int v = Integer.parseInt(text.substring(at, end));
                int[] range = step == 1
                    ? clause == 'l' ? new int[] {1, 9} : clause == 'j' ? new int[] {0, 9} : new int[] {0, w.judges.size() - 1}
                    : clause == 'l' ? new int[] {1, 60} : clause == 'j' ? new int[] {0, 1} : new int[] {1, 30};
                if (!in(v, range[0], range[1])) {
                    return faulty(2, at);
                }
                at = end;
                if (step == 1) {
                    first = v;
                } else if (clause == 'l') {
                    w.beans = first;
                    w.like = v;
                } else if (clause == 'j') {
                    w.judges.add(new int[] {first, v});
                } else {
                    Man m = new Man();
                    m.number = w.men.size();
                    m.kind = kind;
                    m.judge = first;
                    m.years = v;
                    w.men.add(m);
                }
            }
            step = (step + 1) % 5;
        }
        now = w;
        past.clear();
        return w.men.size();
    }

    private int faulty(int number, int place) {
        fault = number;
        return -1000100 - place;
    }

    int fault() {
        return fault;
    }

    int undo() {
        if (past.isEmpty()) {
            return STATE;
        }
        now = past.removeLast();
        return past.size();
    }

    int years(int n) {
        if (now == null) {
            return STATE;
        }
        if (!in(n, 1, 24)) {
            return BAD;
        }
        if (now.year + n > 999) {
            return FULL;
        }
        for (int i = 0; i < n; i++) {
            act();
            now.pass(false);
        }
        return now.set(3);
    }

    int send(int m, int j) {
        if (!isMan(m) || !isJudge(j)) {
            return BAD;
        }
        if (now.men.get(m).how != 0) {
            return STATE;
        }
        act();
        int was = now.men.get(m).judge;
        now.men.get(m).judge = j;
        return was;
    }

    int sentence(int m, int y) {
        if (!isMan(m) || !in(y, 1, 30)) {
            return BAD;
        }
        if (now.men.get(m).how > 1) {
            return STATE;
        }
        act();
        int was = now.men.get(m).years;
        now.men.get(m).years = y;
        return was;
    }

    int gate(int j, int open) {
        if (!isJudge(j) || !in(open, 0, 1)) {
            return BAD;
        }
        act();
        int was = now.judges.get(j)[1];
        now.judges.get(j)[1] = open;
        return was;
    }

    int severe(int j, int v) {
        if (!isJudge(j) || !in(v, 0, 9)) {
            return BAD;
        }
        act();
        int was = now.judges.get(j)[0];
        now.judges.get(j)[0] = v;
        return was;
    }

    int retry(int m, int j, int y) {
        if (!isMan(m) || !isJudge(j) || !in(y, 1, 30)) {
            return BAD;
        }
        if (now.men.get(m).how != 2) {
            return STATE;
        }
        act();
        Man man = now.men.get(m);
        man.how = 0;
        man.judge = j;
        man.years = y;
        return now.set(2);
    }

    int man(int m, int what) {
        if (!isMan(m) || !in(what, 0, 4)) {
            return BAD;
        }
        Man man = now.men.get(m);
        return new int[] {man.judge, man.how, man.years, man.trust, now.growth(man)}[what];
    }

    int judge(int j, int what) {
        if (!isJudge(j) || !in(what, 0, 3)) {
            return BAD;
        }
        Man near = now.neighbour(j);
        int waiters = now.men.stream().filter(m -> m.how == 0 && m.judge == j).mapToInt(m -> 1 << m.number).sum();
        return new int[] {now.judges.get(j)[0], now.judges.get(j)[1], near == null ? NONE : near.number, waiters}[what];
    }

    int stand(int what) {
        if (now == null) {
            return STATE;
        }
        if (!in(what, 0, 5)) {
            return BAD;
        }
        return what < 4 ? now.set(what) : what == 4 ? now.beans : now.like;
    }

    int ahead(int m, int n, int what) {
        if (!isMan(m) || !in(n, 0, 60) || !in(what, 0, 2)) {
            return BAD;
        }
        Man man = now.then(n).men.get(m);
        return new int[] {man.trust, man.how, man.years}[what];
    }

    int by(int j, int n) {
        if (!isJudge(j) || !in(n, 0, 60)) {
            return BAD;
        }
        Man near = now.then(n).neighbour(j);
        return near == null ? NONE : near.number;
    }

    int when(int m, int how) {
        if (!isMan(m) || !in(how, 1, 3)) {
            return BAD;
        }
        for (int n = 0; n <= 60; n++) {
            if (now.then(n).men.get(m).how == how) {
                return n;
            }
        }
        return NONE;
    }

    int sending(int n, int m) {
        if (now == null) {
            return STATE;
        }
        if (!in(n, 1, 30) || m != -1 && !isMan(m)) {
            return BAD;
        }
        int men = now.men.size();
        int judges = now.judges.size();
        int[] best = null;
        int bestDone = -1;
        int bestTrust = -1;
        int[] way = new int[men];
        ways:
        while (true) {
            boolean allowed = true;
            World w = now.copy();
            for (int i = 0; i < men; i++) {
                allowed &= w.men.get(i).how == 0 || way[i] == w.men.get(i).judge;
                w.men.get(i).judge = way[i];
            }
            if (allowed) {
                w = w.then(n);
                int done = Integer.bitCount(w.set(2) | w.set(3));
                if (done > bestDone || done == bestDone && w.trust() > bestTrust) {
                    best = way.clone();
                    bestDone = done;
                    bestTrust = w.trust();
                }
            }
            for (int i = men - 1; ; i--) {
                if (i < 0) {
                    break ways;
                }
                way[i]++;
                if (way[i] < judges) {
                    break;
                }
                way[i] = 0;
            }
        }
        return m < 0 ? bestDone : best[m];
    }

    int gates(int n, int what) {
        if (now == null) {
            return STATE;
        }
        if (!in(n, 1, 30) || !in(what, 0, 1)) {
            return BAD;
        }
        int best = -1;
        int which = -1;
        for (int set = (1 << now.judges.size()) - 1; set >= 0; set--) {
            World w = now.copy();
            for (int j = 0; j < w.judges.size(); j++) {
                w.judges.get(j)[1] = (set & 1 << j) != 0 ? 1 : 0;
            }
            int trust = w.then(n).trust();
            if (trust >= best) {
                best = trust;
                which = set;
            }
        }
        return what == 0 ? which : best;
    }

    int let(int n, int what) {
        if (now == null) {
            return STATE;
        }
        if (!in(n, 1, 30) || !in(what, 0, 1)) {
            return BAD;
        }
        for (int many = 0; many <= 6; many++) {
            for (int set = 0; set < 1 << now.men.size(); set++) {
                if (Integer.bitCount(set) != many || (set & (now.set(2) | now.set(3))) != 0) {
                    continue;
                }
                World w = now.copy();
                for (Man m : w.men) {
                    if ((set & 1 << m.number) != 0) {
                        m.how = 2;
                    }
                }
                if (w.then(n).set(0) == 0) {
                    return what == 0 ? many : set;
                }
            }
        }
        throw new IllegalStateException();
    }

    int closest(int j, int what) {
        if (!isJudge(j) || !in(what, 0, 1)) {
            return BAD;
        }
        int best = now.men.stream().filter(m -> m.judge == j).mapToInt(m -> m.trust).max().orElse(NONE);
        if (best == NONE || what == 1) {
            return best;
        }
        return now.men.stream().filter(m -> m.judge == j && m.trust == best).findFirst().get().number;
    }

    int share(int m, int n) {
        if (!isMan(m) || !in(n, 0, 999)) {
            return BAD;
        }
        int[] gets = new int[now.men.size()];
        int all = now.men.stream().filter(o -> o.how == 1 || o.how == 3).mapToInt(o -> o.trust).sum();
        if (all == 0) {
            return 0;
        }
        int over = n;
        for (Man o : now.men) {
            if (o.how == 1 || o.how == 3) {
                gets[o.number] = n * o.trust / all;
                over -= gets[o.number];
            }
        }
        for (Man o : now.men) {
            if ((o.how == 1 || o.how == 3) && o.trust > 0 && over > 0) {
                gets[o.number]++;
                over--;
            }
        }
        return gets[m];
    }

    int byTurns(int a, int b, int n, int m) {
        if (!isJudge(a) || !isJudge(b) || a == b || !in(n, 0, 4) || !in(m, 1, 20)) {
            return BAD;
        }
        return play(now, a, b, n, m, true);
    }

    private static int play(World w, int a, int b, int n, int m, boolean great) {
        if (n == 0) {
            World then = w.then(m);
            return then.trust(a) - then.trust(b);
        }
        List<Integer> outcomes = new ArrayList<>();
        outcomes.add(play(w, a, b, n - 1, m, !great));
        for (Man man : w.men) {
            if (man.judge == (great ? a : b) && man.how < 2) {
                World next = w.copy();
                Man given = next.men.get(man.number);
                given.years = Math.min(30, given.years + 5);
                outcomes.add(play(next, a, b, n - 1, m, !great));
            }
        }
        return great ? outcomes.stream().mapToInt(v -> v).max().getAsInt()
            : outcomes.stream().mapToInt(v -> v).min().getAsInt();
    }

    private int told(int r, int i, int n) {
        if (items[r] == null) {
            return 1;
        }
        return outside(r, i, n) ? 2 : 0;
    }

    private boolean fits(World w, int m, int r, int i, int n) {
        for (int y = 1; y <= n; y++) {
            if (w.then(y).men.get(m).trust != items[r][i + y - 1]) {
                return false;
            }
        }
        return true;
    }

    int who(int m, int which, int r, int i, int n) {
        if (!isMan(m) || !in(which, 0, 2) || !in(r, 0, 7) || !in(n, 1, 12)) {
            return BAD;
        }
        if (told(r, i, n) != 0) {
            return found(told(r, i, n));
        }
        int kinds = 0;
        for (int k = 1; k <= 5; k++) {
            World w = now.copy();
            w.men.get(m).kind = k;
            kinds |= fits(w, m, r, i, n) ? 1 << k : 0;
        }
        List<Integer> trusts = new ArrayList<>();
        for (int t = 0; t <= 99; t++) {
            World w = now.copy();
            w.men.get(m).trust = t;
            if (fits(w, m, r, i, n)) {
                trusts.add(t);
            }
        }
        return fine(which == 0 ? kinds : which == 1 ? trusts.size() : trusts.isEmpty() ? NONE : trusts.get(0));
    }

    int severes(int j, int m, int r, int i, int n) {
        if (!isJudge(j) || !isMan(m) || !in(r, 0, 7) || !in(n, 1, 12)) {
            return BAD;
        }
        if (told(r, i, n) != 0) {
            return found(told(r, i, n));
        }
        int set = 0;
        for (int s = 0; s <= 9; s++) {
            World w = now.copy();
            w.judges.get(j)[0] = s;
            set |= fits(w, m, r, i, n) ? 1 << s : 0;
        }
        return fine(set);
    }

    int likes(int m, int which, int r, int i, int n) {
        if (!isMan(m) || !in(which, 0, 1) || !in(r, 0, 7) || !in(n, 1, 12)) {
            return BAD;
        }
        if (told(r, i, n) != 0) {
            return found(told(r, i, n));
        }
        List<Integer> likes = new ArrayList<>();
        for (int l = 1; l <= 60; l++) {
            World w = now.copy();
            w.like = l;
            if (fits(w, m, r, i, n)) {
                likes.add(l);
            }
        }
        return fine(which == 0 ? likes.size() : likes.isEmpty() ? NONE : likes.get(0));
    }

    long fence(int m, int n, int p, int what) {
        if (!isMan(m) || !in(n, 0, 8) || !in(p, 0, 10) || !in(what, 0, 1)) {
            return BAD;
        }
        BigInteger above = cases(now, m, n, p);
        BigInteger below = BigInteger.TEN.pow(n);
        BigInteger g = above.gcd(below);
        return (what == 0 ? above : below).divide(g).longValueExact();
    }

    private static BigInteger cases(World w, int m, int n, int p) {
        if (n == 0) {
            return w.men.get(m).how == 3 ? BigInteger.ONE : BigInteger.ZERO;
        }
        World mended = w.copy();
        mended.pass(true);
        World not = w.copy();
        not.pass(false);
        return cases(mended, m, n - 1, p).multiply(BigInteger.valueOf(p))
            .add(cases(not, m, n - 1, p).multiply(BigInteger.valueOf(10 - p)));
    }

    int drawn(int n, int seed, int what) {
        if (now == null) {
            return STATE;
        }
        if (!in(n, 0, 60) || !in(seed, 1, 999999) || !in(what, 0, 1)) {
            return BAD;
        }
        BigInteger x = BigInteger.valueOf(seed);
        World w = now.copy();
        for (int i = 0; i < n; i++) {
            x = x.multiply(BigInteger.valueOf(16807)).mod(BigInteger.valueOf(2147483647));
            int v = x.intValueExact();
            int j = v % w.judges.size();
            Man m = w.men.get(v % w.men.size());
            if (v % 3 == 0) {
                w.judges.get(j)[1] ^= 1;
            }
            if (m.how == 2 && v % 4 == 0) {
                m.how = 0;
                m.judge = j;
                m.years = v % 9 + 1;
            }
            w.pass(false);
        }
        return what == 0 ? w.trust() : w.set(3);
    }

    int image(int k) {
        if (!in(k, 0, 1)) {
            return BAD;
        }
        if (now == null) {
            return STATE;
        }
        images[k] = now.copy();
        return 1;
    }

    int restore(int k) {
        if (!in(k, 0, 1)) {
            return BAD;
        }
        if (images[k] == null) {
            return STATE;
        }
        now = images[k].copy();
        past.clear();
        return 1;
    }

    int kind(int one) {
        return isMan(one) ? now.men.get(one).kind : BAD;
    }

    int as(int one, int kind) {
        if (!isMan(one) || !in(kind, 0, 5)) {
            return BAD;
        }
        List<List<Integer>> are = Arrays.asList(List.of(0), List.of(0, 1), List.of(0, 1, 2), List.of(0, 1, 3),
            List.of(0, 4), List.of(0, 4, 5));
        return are.get(kind(one)).contains(kind) ? fine(one) : found(3);
    }

    int ask(int one, int what) {
        if (!isMan(one) || !in(what, 0, 1)) {
            return BAD;
        }
        trace.clear();
        AskedMan[] made = {null, new Thief(), new Lifer(), new Singer(), new Wronged(), new Boy()};
        AskedMan asked = made[kind(one)];
        asked.of(now.men.get(one), trace);
        return what == 0 ? asked.size() : asked.mark();
    }

    int trace(int i) {
        return in(i, 0, Math.min(16, trace.size()) - 1) ? trace.get(i) : NONE;
    }

    int count(int what) {
        switch (what) {
            case 0: return (int) Arrays.stream(items).filter(r -> r != null).count();
            case 1: return now == null ? 0 : now.men.size();
            case 2: return now == null ? 0 : now.judges.size();
            case 3: return now == null ? 0 : now.year;
            case 4: return now == null ? 0 : now.trust();
            case 5: return now == null ? 0 : Integer.bitCount(now.set(0));
            case 6: return past.size();
            case 7: return tape.length();
            default: return BAD;
        }
    }

    int status() {
        return status;
    }

    static class AskedMan {
        Man man;
        List<Integer> trace;

        void of(Man m, List<Integer> t) {
            man = m;
            trace = t;
        }

        int size() {
            trace.add(10);
            return man.years;
        }

        int mark() {
            trace.add(20);
            return man.number;
        }
    }

    static class Thief extends AskedMan {
        int size() {
            trace.add(11);
            int years = super.size();
            return years + mark();
        }

        int mark() {
            trace.add(21);
            return super.mark() + man.trust;
        }
    }

    static class Lifer extends Thief {
        int size() {
            trace.add(12);
            return 0 - super.size();
        }

        int mark() {
            trace.add(24);
            return super.mark() * 2;
        }
    }

    static class Singer extends Thief {
        int mark() {
            trace.add(22);
            return super.mark() - 1000;
        }
    }

    static class Wronged extends AskedMan {
        int size() {
            trace.add(13);
            return super.size() - 100;
        }

        int mark() {
            trace.add(23);
            int number = super.mark();
            return number - size();
        }
    }

    static class Boy extends Wronged {
        int size() {
            trace.add(14);
            return super.size() * 2;
        }
    }
}
