/**
 * A small circuit whose judges live beside whom they have sentenced, in the two halves of a house.
 * What each call answers is told in DOC.md, promise by promise.
 *
 * All that a call needs is made in the constructor and used again: no call makes an object.
 */
public final class JudgeHalves {
    public static final int NONE = -1000000, BAD = -1000001, STATE = -1000002, FULL = -1000003;

    private static final int FINDINGS = -1000010, FAULTS = -1000100;
    private static final int NULL = 1, PLACE = 2, OTHER_KIND = 3, SIZE = 4, STORE = 5;

    private static final int MOST_JUDGES = 4, MOST_MEN = 6;
    private static final int MOST_BEANS = 9, MOST_LIKE = 60, MOST_SEVERE = 9;
    private static final int MOST_YEARS = 30, MOST_TRUST = 99, LAST_YEAR = 999;
    private static final int MOST_AHEAD = 60, MOST_TOLD = 12, MOST_PASSED = 24;

    private static final int WAITS = 0, BESIDE = 1, OUT = 2, SETTLED = 3;

    private static final int MAN = 0, THIEF = 1, LIFER = 2, SINGER = 3, WRONGED = 4, BOY = 5;
    /** The nearest kind that each kind is, too; -1 behind the last. */
    private static final int[] NEAREST = {-1, MAN, THIEF, THIEF, MAN, WRONGED};

    private final Rows rows = new Rows();
    private final Circuit now = new Circuit();
    private final Tape tape = new Tape();
    private final Past past = new Past();
    private final Foresight foresight = new Foresight();
    private final Planner planner = new Planner();
    private final Fitting fitting = new Fitting();
    private final Asks asks = new Asks();
    private final Circuit[] images = {new Circuit(), new Circuit()};
    private int latestFinding;

    public JudgeHalves() {
    }

    // ---- rows

    public int row(int row, int lane, int n) {
        if (!Rows.isRow(row) || !isWithin(lane, 0, Rows.LAST_LANE) || n > Rows.MOST_ITEMS) {
            return BAD;
        }
        if (n < 0) {
            return found(SIZE);
        }
        rows.make(row, lane, n);
        return foundNothing(n);
    }

    public int set(int row, int i, int v) {
        if (!Rows.isRow(row)) {
            return BAD;
        }
        int finding = rows.findingFor(row, i, 1);
        if (finding != 0) {
            return found(finding);
        }
        return foundNothing(rows.put(row, i, v));
    }

    public int copy(int a, int i, int b, int j, int n) {
        if (!Rows.isRow(a) || !Rows.isRow(b)) {
            return BAD;
        }
        int finding = rows.findingForTwo(a, i, b, j, n);
        if (finding != 0) {
            return found(finding);
        }
        rows.move(a, i, b, j, n);
        return foundNothing(n);
    }

    public int drop(int row) {
        if (!Rows.isRow(row)) {
            return BAD;
        }
        if (rows.isMissing(row)) {
            return found(NULL);
        }
        return foundNothing(rows.lose(row));
    }

    // ---- what is told

    public int feed(int letter) {
        if (!isWithin(letter, 0, 255)) {
            return BAD;
        }
        if (tape.isFull()) {
            return FULL;
        }
        return tape.add(letter);
    }

    public int circuit() {
        Circuit told = tape.readAll();
        if (told == null) {
            return FAULTS - tape.faultPlace();
        }
        now.takeFrom(told);
        past.forget();
        return now.men;
    }

    public int fault() {
        return tape.faultNumber();
    }

    public int undo() {
        if (past.size() == 0) {
            return STATE;
        }
        past.giveBack(now);
        return past.size();
    }

    // ---- what is done

    public int years(int n) {
        if (!hasCircuit()) {
            return STATE;
        }
        if (!isWithin(n, 1, MOST_PASSED)) {
            return BAD;
        }
        if (now.year + n > LAST_YEAR) {
            return FULL;
        }
        for (int passed = 0; passed < n; passed++) {
            past.keep(now);
            now.passYears(1, 0);
        }
        return now.whoAre(SETTLED);
    }

    public int send(int man, int judge) {
        if (!now.isMan(man) || !now.isJudge(judge)) {
            return BAD;
        }
        if (now.how[man] != WAITS) {
            return STATE;
        }
        past.keep(now);
        int before = now.judgeOf[man];
        now.judgeOf[man] = judge;
        return before;
    }

    public int sentence(int man, int years) {
        if (!now.isMan(man) || !isWithin(years, 1, MOST_YEARS)) {
            return BAD;
        }
        if (!now.isServing(man)) {
            return STATE;
        }
        past.keep(now);
        int before = now.left[man];
        now.left[man] = years;
        return before;
    }

    public int gate(int judge, int open) {
        if (!now.isJudge(judge) || !isWithin(open, 0, 1)) {
            return BAD;
        }
        past.keep(now);
        int before = now.open[judge];
        now.open[judge] = open;
        return before;
    }

    public int severe(int judge, int v) {
        if (!now.isJudge(judge) || !isWithin(v, 0, MOST_SEVERE)) {
            return BAD;
        }
        past.keep(now);
        int before = now.severe[judge];
        now.severe[judge] = v;
        return before;
    }

    public int retry(int man, int judge, int years) {
        if (!now.isMan(man) || !now.isJudge(judge) || !isWithin(years, 1, MOST_YEARS)) {
            return BAD;
        }
        if (now.how[man] != OUT) {
            return STATE;
        }
        past.keep(now);
        now.tryAgain(man, judge, years);
        return now.whoAre(OUT);
    }

    public int man(int man, int what) {
        if (!now.isMan(man)) {
            return BAD;
        }
        switch (what) {
            case 0: return now.judgeOf[man];
            case 1: return now.how[man];
            case 2: return now.left[man];
            case 3: return now.trust[man];
            case 4: return now.growthOf(man);
            default: return BAD;
        }
    }

    public int judge(int judge, int what) {
        if (!now.isJudge(judge)) {
            return BAD;
        }
        switch (what) {
            case 0: return now.severe[judge];
            case 1: return now.open[judge];
            case 2: return now.neighbourOf(judge);
            case 3: return now.waitersFor(judge);
            default: return BAD;
        }
    }

    public int stand(int what) {
        if (!hasCircuit()) {
            return STATE;
        }
        switch (what) {
            case 0: return now.whoAre(WAITS);
            case 1: return now.whoAre(BESIDE);
            case 2: return now.whoAre(OUT);
            case 3: return now.whoAre(SETTLED);
            case 4: return now.beans;
            case 5: return now.like;
            default: return BAD;
        }
    }

    // ---- foretold

    public int ahead(int man, int n, int what) {
        if (!now.isMan(man) || !isWithin(n, 0, MOST_AHEAD) || !isWithin(what, 0, 2)) {
            return BAD;
        }
        Circuit then = foresight.look(now, n);
        if (what == 0) {
            return then.trust[man];
        }
        return what == 1 ? then.how[man] : then.left[man];
    }

    public int by(int judge, int n) {
        if (!now.isJudge(judge) || !isWithin(n, 0, MOST_AHEAD)) {
            return BAD;
        }
        return foresight.look(now, n).neighbourOf(judge);
    }

    public int when(int man, int how) {
        if (!now.isMan(man) || !isWithin(how, BESIDE, SETTLED)) {
            return BAD;
        }
        return foresight.firstYearAs(now, man, how);
    }

    public int sending(int n, int man) {
        if (!hasCircuit()) {
            return STATE;
        }
        if (!isWithin(n, 1, MOST_YEARS) || !isWithin(man, -1, now.men - 1)) {
            return BAD;
        }
        planner.planSending(now, n);
        return man < 0 ? planner.sentDone() : planner.sentJudge(man);
    }

    public int gates(int n, int what) {
        if (!hasCircuit()) {
            return STATE;
        }
        if (!isWithin(n, 1, MOST_YEARS) || !isWithin(what, 0, 1)) {
            return BAD;
        }
        planner.planGates(now, n);
        return what == 0 ? planner.bestSet() : planner.bestWorth();
    }

    public int let(int n, int what) {
        if (!hasCircuit()) {
            return STATE;
        }
        if (!isWithin(n, 1, MOST_YEARS) || !isWithin(what, 0, 1)) {
            return BAD;
        }
        planner.planLettingOff(now, n);
        return what == 0 ? planner.bestWorth() : planner.bestSet();
    }

    public int closest(int judge, int what) {
        if (!now.isJudge(judge) || !isWithin(what, 0, 1)) {
            return BAD;
        }
        int man = now.closestTo(judge);
        if (!now.isMan(man)) {
            return NONE;
        }
        return what == 0 ? man : now.trust[man];
    }

    public int share(int man, int n) {
        if (!now.isMan(man) || !isWithin(n, 0, 999)) {
            return BAD;
        }
        return now.beansFor(man, n);
    }

    public int byTurns(int judge, int other, int n, int m) {
        if (!now.isJudge(judge) || !now.isJudge(other) || judge == other) {
            return BAD;
        }
        if (!isWithin(n, 0, Planner.MOST_TURNS) || !isWithin(m, 1, 20)) {
            return BAD;
        }
        return planner.playTurns(now, judge, other, n, m);
    }

    public int who(int man, int which, int row, int i, int n) {
        if (!now.isMan(man) || !isWithin(which, 0, 2) || !isToldRow(row, n)) {
            return BAD;
        }
        int finding = rows.findingFor(row, i, n);
        if (finding != 0) {
            return found(finding);
        }
        fitting.hear(man, rows, row, i, n);
        if (which == 0) {
            fitting.tryAll(now, Fitting.OF_KIND, man, THIEF, BOY);
            return foundNothing(fitting.bits());
        }
        fitting.tryAll(now, Fitting.OF_TRUST, man, 0, MOST_TRUST);
        return foundNothing(which == 1 ? fitting.howMany() : fitting.least());
    }

    public int severes(int judge, int man, int row, int i, int n) {
        if (!now.isJudge(judge) || !now.isMan(man) || !isToldRow(row, n)) {
            return BAD;
        }
        int finding = rows.findingFor(row, i, n);
        if (finding != 0) {
            return found(finding);
        }
        fitting.hear(man, rows, row, i, n);
        fitting.tryAll(now, Fitting.OF_SEVERE, judge, 0, MOST_SEVERE);
        return foundNothing(fitting.bits());
    }

    public int likes(int man, int which, int row, int i, int n) {
        if (!now.isMan(man) || !isWithin(which, 0, 1) || !isToldRow(row, n)) {
            return BAD;
        }
        int finding = rows.findingFor(row, i, n);
        if (finding != 0) {
            return found(finding);
        }
        fitting.hear(man, rows, row, i, n);
        fitting.tryAll(now, Fitting.OF_LIKE, man, 1, MOST_LIKE);
        return foundNothing(which == 0 ? fitting.howMany() : fitting.least());
    }

    public long fence(int man, int n, int p, int what) {
        if (!now.isMan(man) || !isWithin(n, 0, Foresight.MOST_FENCED)) {
            return BAD;
        }
        if (!isWithin(p, 0, 10) || !isWithin(what, 0, 1)) {
            return BAD;
        }
        foresight.weighFences(now, man, n, p);
        return what == 0 ? foresight.above() : foresight.below();
    }

    public int drawn(int n, int seed, int what) {
        if (!hasCircuit()) {
            return STATE;
        }
        if (!isWithin(n, 0, MOST_AHEAD) || !isWithin(seed, 1, 999999) || !isWithin(what, 0, 1)) {
            return BAD;
        }
        Circuit then = foresight.lookByDraws(now, n, seed);
        return what == 0 ? then.trustOfAll() : then.whoAre(SETTLED);
    }

    public int image(int k) {
        if (!isWithin(k, 0, images.length - 1)) {
            return BAD;
        }
        if (!hasCircuit()) {
            return STATE;
        }
        images[k].takeFrom(now);
        return 1;
    }

    public int restore(int k) {
        if (!isWithin(k, 0, images.length - 1)) {
            return BAD;
        }
        if (images[k].men == 0) {
            return STATE;
        }
        now.takeFrom(images[k]);
        past.forget();
        return 1;
    }

    // ---- asked

    public int kind(int one) {
        return now.isMan(one) ? now.kind[one] : BAD;
    }

    public int as(int one, int kind) {
        if (!now.isMan(one) || !isWithin(kind, MAN, BOY)) {
            return BAD;
        }
        if (!isOfKind(now.kind[one], kind)) {
            return found(OTHER_KIND);
        }
        return foundNothing(one);
    }

    public int ask(int one, int what) {
        if (!now.isMan(one) || !isWithin(what, Asks.OF_SIZE, Asks.OF_MARK)) {
            return BAD;
        }
        return asks.askAnew(now, one, what);
    }

    public int trace(int i) {
        return asks.traced(i);
    }

    public int count(int what) {
        switch (what) {
            case 0: return rows.howMany();
            case 1: return now.men;
            case 2: return now.judges;
            case 3: return now.year;
            case 4: return now.trustOfAll();
            case 5: return Integer.bitCount(now.whoAre(WAITS));
            case 6: return past.size();
            case 7: return tape.size();
            default: return BAD;
        }
    }

    public int status() {
        return latestFinding;
    }

    private boolean hasCircuit() {
        return now.men > 0;
    }

    private boolean isToldRow(int row, int n) {
        return Rows.isRow(row) && isWithin(n, 1, MOST_TOLD);
    }

    private int found(int finding) {
        latestFinding = finding;
        return FINDINGS - finding;
    }

    private int foundNothing(int answer) {
        latestFinding = 0;
        return answer;
    }

    private static boolean isWithin(int v, int least, int most) {
        return v >= least && v <= most;
    }

    private static boolean isOfKind(int kind, int wanted) {
        int nearest = kind;
        for (int steps = 0; steps < NEAREST.length; steps++) {
            if (nearest == wanted) {
                return true;
            }
            if (nearest < 0 || nearest >= NEAREST.length) {
                return false;
            }
            nearest = NEAREST[nearest];
        }
        return false;
    }

    /** The eight rows; the room of each is kept when it is missing. */
    private static final class Rows {
        static final int MOST_ITEMS = 40, LAST_LANE = 2;
        private static final int ROWS = 8, MISSING = -1;

        private final int[][] items = new int[ROWS][MOST_ITEMS];
        private final int[] lanes = new int[ROWS];
        private final int[] sizes = {MISSING, MISSING, MISSING, MISSING, MISSING, MISSING, MISSING, MISSING};

        static boolean isRow(int row) {
            return row >= 0 && row < ROWS;
        }

        boolean isMissing(int row) {
            return !isRow(row) || sizes[row] == MISSING;
        }

        /** NULL, PLACE or 0, for n items of a row from i on. */
        int findingFor(int row, int i, int n) {
            if (isMissing(row)) {
                return NULL;
            }
            return hasPlaces(row, i, n) ? 0 : PLACE;
        }

        int findingForTwo(int a, int i, int b, int j, int n) {
            if (isMissing(a) || isMissing(b)) {
                return NULL;
            }
            if (lanes[a] != lanes[b]) {
                return STORE;
            }
            return hasPlaces(a, i, n) && hasPlaces(b, j, n) ? 0 : PLACE;
        }

        private boolean hasPlaces(int row, int i, int n) {
            // n is held against what is behind i, as i + n could run over
            return !isMissing(row) && i >= 0 && n >= 0 && i <= sizes[row] && n <= sizes[row] - i;
        }

        void make(int row, int lane, int n) {
            if (!isRow(row)) {
                return;
            }
            lanes[row] = lane;
            sizes[row] = n;
            for (int i = 0; i < MOST_ITEMS; i++) {
                items[row][i] = 0;
            }
        }

        int put(int row, int i, int v) {
            if (!hasPlaces(row, i, 1)) {
                return 0;
            }
            items[row][i] = lowestBits(lanes[row], v);
            return items[row][i];
        }

        private static int lowestBits(int lane, int v) {
            if (lane == 0) {
                return (byte) v;
            }
            return lane == 1 ? (short) v : v;
        }

        int itemAt(int row, int i) {
            return hasPlaces(row, i, 1) ? items[row][i] : 0;
        }

        void move(int a, int i, int b, int j, int n) {
            if (hasPlaces(a, i, n) && hasPlaces(b, j, n)) {
                System.arraycopy(items[a], i, items[b], j, n);
            }
        }

        int lose(int row) {
            if (!isRow(row)) {
                return 0;
            }
            int had = sizes[row];
            sizes[row] = MISSING;
            return had;
        }

        int howMany() {
            int there = 0;
            for (int row = 0; row < ROWS; row++) {
                there += isMissing(row) ? 0 : 1;
            }
            return there;
        }
    }

    /** The circuit as it stands in one year; with no men there is none. */
    private static final class Circuit {
        int judges, men, beans, like, year;
        final int[] severe = new int[MOST_JUDGES];
        final int[] open = new int[MOST_JUDGES];
        final int[] kind = new int[MOST_MEN];
        final int[] judgeOf = new int[MOST_MEN];
        final int[] how = new int[MOST_MEN];
        /** Years that a man has yet; 0 of one who is out or has settled. */
        final int[] left = new int[MOST_MEN];
        final int[] trust = new int[MOST_MEN];

        void takeFrom(Circuit other) {
            if (other == null) {
                return;
            }
            judges = other.judges;
            men = other.men;
            beans = other.beans;
            like = other.like;
            year = other.year;
            System.arraycopy(other.severe, 0, severe, 0, MOST_JUDGES);
            System.arraycopy(other.open, 0, open, 0, MOST_JUDGES);
            System.arraycopy(other.kind, 0, kind, 0, MOST_MEN);
            System.arraycopy(other.judgeOf, 0, judgeOf, 0, MOST_MEN);
            System.arraycopy(other.how, 0, how, 0, MOST_MEN);
            System.arraycopy(other.left, 0, left, 0, MOST_MEN);
            System.arraycopy(other.trust, 0, trust, 0, MOST_MEN);
        }

        void begin(int beansOfLaw, int likeOfLaw) {
            judges = 0;
            men = 0;
            beans = beansOfLaw;
            like = likeOfLaw;
            year = 0;
        }

        void addJudge(int severity, int isOpen) {
            if (judges < 0 || judges >= MOST_JUDGES) {
                return;
            }
            severe[judges] = severity;
            open[judges] = isOpen;
            judges++;
        }

        void addMan(int ofKind, int judge, int years) {
            if (men < 0 || men >= MOST_MEN) {
                return;
            }
            kind[men] = ofKind;
            judgeOf[men] = judge;
            how[men] = WAITS;
            left[men] = years;
            trust[men] = 0;
            men++;
        }

        boolean isMan(int man) {
            return man >= 0 && man < men && man < MOST_MEN;
        }

        boolean isJudge(int judge) {
            return judge >= 0 && judge < judges && judge < MOST_JUDGES;
        }

        boolean isServing(int man) {
            return isMan(man) && (how[man] == WAITS || how[man] == BESIDE);
        }

        boolean isHoused(int man) {
            return isMan(man) && (how[man] == BESIDE || how[man] == SETTLED);
        }

        /** Fences are mended, so that no trust grows, in those of the years whose bits are set. */
        void passYears(int n, int mended) {
            for (int passed = 0; passed < n; passed++) {
                moveIn();
                boolean grows = passed >= Foresight.MOST_FENCED || (mended >> passed & 1) == 0;
                for (int man = 0; man < men; man++) {
                    if (how[man] == BESIDE) {
                        liveBeside(man, grows);
                    }
                }
                year++;
            }
        }

        /** Man by man is judge by judge, as each judge takes the first who waits for him. */
        private void moveIn() {
            int taken = 0;
            for (int man = 0; man < men; man++) {
                if (isHoused(man) && isJudge(judgeOf[man])) {
                    taken |= 1 << judgeOf[man];
                }
            }
            for (int man = 0; man < men; man++) {
                boolean canMove = how[man] == WAITS && isJudge(judgeOf[man]);
                if (canMove && (taken >> judgeOf[man] & 1) == 0) {
                    how[man] = BESIDE;
                    taken |= 1 << judgeOf[man];
                }
            }
        }

        private void liveBeside(int man, boolean grows) {
            if (!isMan(man)) {
                return;
            }
            if (grows) {
                trust[man] = Math.min(MOST_TRUST, trust[man] + growthOf(man));
            }
            if (kind[man] == LIFER) {
                return;
            }
            left[man]--;
            if (left[man] <= 0) {
                left[man] = 0;
                how[man] = trust[man] >= like ? SETTLED : OUT;
            }
        }

        /** By how much trust grows in this year beside the judge, not held to the most there can be. */
        int growthOf(int man) {
            if (!isMan(man) || !isJudge(judgeOf[man])) {
                return 0;
            }
            int severity = severe[judgeOf[man]];
            int isOpen = open[judgeOf[man]];
            int asThief = Math.max(0, beans - severity / 3) + isOpen;
            int asWronged = isOpen == 1 ? severity : 0;
            switch (kind[man]) {
                case THIEF:
                case LIFER: return asThief;
                case SINGER: return year % 2 == 1 ? 2 * asThief : asThief;
                case WRONGED: return asWronged;
                case BOY: return asWronged + 1;
                default: return 0;
            }
        }

        void tryAgain(int man, int judge, int years) {
            if (isMan(man) && isJudge(judge)) {
                how[man] = WAITS;
                judgeOf[man] = judge;
                left[man] = years;
            }
        }

        void letOff(int set) {
            for (int man = 0; man < men; man++) {
                if ((set >> man & 1) == 1) {
                    how[man] = OUT;
                    left[man] = 0;
                }
            }
        }

        int whoAre(int state) {
            int set = 0;
            for (int man = 0; man < men; man++) {
                if (how[man] == state) {
                    set |= 1 << man;
                }
            }
            return set;
        }

        int neighbourOf(int judge) {
            for (int man = 0; man < men; man++) {
                if (judgeOf[man] == judge && isHoused(man)) {
                    return man;
                }
            }
            return NONE;
        }

        int waitersFor(int judge) {
            int set = 0;
            for (int man = 0; man < men; man++) {
                if (judgeOf[man] == judge && how[man] == WAITS) {
                    set |= 1 << man;
                }
            }
            return set;
        }

        int trustOfAll() {
            int sum = 0;
            for (int man = 0; man < men; man++) {
                sum += trust[man];
            }
            return sum;
        }

        int trustTowards(int judge) {
            int sum = 0;
            for (int man = 0; man < men; man++) {
                sum += judgeOf[man] == judge ? trust[man] : 0;
            }
            return sum;
        }

        /** How many men of a judge are out or have settled. */
        int doneWith(int judge) {
            int done = 0;
            for (int man = 0; man < men; man++) {
                done += judgeOf[man] == judge && !isServing(man) ? 1 : 0;
            }
            return done;
        }

        int closestTo(int judge) {
            int best = NONE;
            for (int man = 0; man < men; man++) {
                if (judgeOf[man] == judge && (!isMan(best) || trust[man] > trust[best])) {
                    best = man;
                }
            }
            return best;
        }

        int beansFor(int man, int n) {
            int all = 0;
            for (int one = 0; one < men; one++) {
                all += isHoused(one) ? trust[one] : 0;
            }
            if (all <= 0 || !isHoused(man) || trust[man] == 0) {
                return 0;
            }
            int over = n;
            int ahead = 0;
            for (int one = 0; one < men; one++) {
                if (isHoused(one) && trust[one] > 0) {
                    over -= n * trust[one] / all;
                    ahead += one < man ? 1 : 0;
                }
            }
            return n * trust[man] / all + (ahead < over ? 1 : 0);
        }
    }

    /** The tape, and how a circuit is read from it. */
    private static final class Tape {
        private static final int MOST_BYTES = 120;
        private static final int END = 0, LETTER = 1, NUMBER = 2, SIGN = 3, NO_TOKEN = 4;
        private static final int CANNOT_STAND = 1, NOT_AS_TOLD = 2, NO_ROOM = 3;

        private final int[] bytes = new int[MOST_BYTES];
        private final Circuit told = new Circuit();
        private int length;
        private int at, token, value, behind;
        private int first, second;
        private int faultNumber, faultPlace;

        int size() {
            return length;
        }

        boolean isFull() {
            return length >= MOST_BYTES;
        }

        int add(int letter) {
            if (length >= 0 && length < MOST_BYTES) {
                bytes[length] = letter;
                length++;
            }
            return length;
        }

        int faultNumber() {
            return faultNumber;
        }

        int faultPlace() {
            return faultPlace;
        }

        /** The circuit that the tape tells, or null; the tape is empty then. */
        Circuit readAll() {
            behind = 0;
            next();
            boolean isWhole = readLaw() && readJudges() && readMen();
            length = 0;
            return isWhole ? told : null;
        }

        private boolean readLaw() {
            if (!seesLetter('l')) {
                return faulty(CANNOT_STAND);
            }
            next();
            if (!readPair(1, MOST_BEANS, 1, MOST_LIKE)) {
                return false;
            }
            told.begin(first, second);
            return true;
        }

        private boolean readJudges() {
            for (int read = 0; read < MOST_JUDGES; read++) {
                if (!seesLetter('j')) {
                    return read > 0 || faulty(CANNOT_STAND);
                }
                next();
                if (!readPair(0, MOST_SEVERE, 0, 1)) {
                    return false;
                }
                told.addJudge(first, second);
            }
            return !seesLetter('j') || faulty(NO_ROOM);
        }

        private boolean readMen() {
            for (int read = 0; read < MOST_MEN; read++) {
                int kind = sortSeen();
                if (kind == MAN) {
                    return read > 0 && token == END || faulty(CANNOT_STAND);
                }
                next();
                if (!readPair(0, told.judges - 1, 1, MOST_YEARS)) {
                    return false;
                }
                told.addMan(kind, first, second);
            }
            return token == END || faulty(sortSeen() == MAN ? CANNOT_STAND : NO_ROOM);
        }

        /** The kind that is told by the letter seen; MAN, if it tells none. */
        private int sortSeen() {
            if (token != LETTER) {
                return MAN;
            }
            switch (value) {
                case 't': return THIEF;
                case 'f': return LIFER;
                case 's': return SINGER;
                case 'w': return WRONGED;
                case 'b': return BOY;
                default: return MAN;
            }
        }

        /** Two numbers, as both clauses have them: NUMBER , NUMBER ; */
        private boolean readPair(int leastFirst, int mostFirst, int leastSecond, int mostSecond) {
            if (!seesNumber(leastFirst, mostFirst)) {
                return false;
            }
            first = value;
            next();
            if (!passesSign(',') || !seesNumber(leastSecond, mostSecond)) {
                return false;
            }
            second = value;
            next();
            return passesSign(';');
        }

        private boolean seesNumber(int least, int most) {
            if (token != NUMBER) {
                return faulty(CANNOT_STAND);
            }
            return isWithin(value, least, most) || faulty(NOT_AS_TOLD);
        }

        private boolean passesSign(int sign) {
            if (token != SIGN || value != sign) {
                return faulty(CANNOT_STAND);
            }
            next();
            return true;
        }

        private boolean seesLetter(int letter) {
            return token == LETTER && value == letter;
        }

        private boolean faulty(int number) {
            faultNumber = number;
            faultPlace = at;
            return false;
        }

        private int byteAt(int place) {
            return place >= 0 && place < length && place < MOST_BYTES ? bytes[place] : -1;
        }

        private void next() {
            at = behind;
            value = byteAt(at);
            behind = at + 1;
            if (value < 0) {
                token = END;
                behind = at;
            } else if (isFigure(value)) {
                lookAtNumber();
            } else if (value >= 'a' && value <= 'z') {
                token = LETTER;
            } else {
                token = value == ',' || value == ';' ? SIGN : NO_TOKEN;
            }
        }

        private void lookAtNumber() {
            value = 0;
            behind = at;
            for (int figures = 0; figures < 3 && isFigure(byteAt(behind)); figures++) {
                value = 10 * value + byteAt(behind) - '0';
                behind++;
            }
            token = behind - at <= 2 ? NUMBER : NO_TOKEN;
        }

        private static boolean isFigure(int letter) {
            return letter >= '0' && letter <= '9';
        }
    }

    /** What the latest acts have changed: the circuit as it stood ahead of each. */
    private static final class Past {
        private static final int MOST_ACTS = 24;

        private final Circuit[] kept = new Circuit[MOST_ACTS];
        private int oldest, acts;

        Past() {
            for (int i = 0; i < MOST_ACTS; i++) {
                kept[i] = new Circuit();
            }
        }

        int size() {
            return acts;
        }

        void forget() {
            acts = 0;
        }

        void keep(Circuit circuit) {
            Circuit place = kept[placeOf(acts)];
            if (place != null) {
                place.takeFrom(circuit);
            }
            if (acts < MOST_ACTS) {
                acts++;
            } else {
                oldest = placeOf(1);
            }
        }

        void giveBack(Circuit circuit) {
            if (acts > 0 && circuit != null) {
                acts--;
                circuit.takeFrom(kept[placeOf(acts)]);
            }
        }

        private int placeOf(int act) {
            return Math.floorMod(oldest + act, MOST_ACTS);
        }
    }

    /** What comes if all goes on as it stands, by fences, or by draws. */
    private static final class Foresight {
        static final int MOST_FENCED = 8;

        private final Circuit trial = new Circuit();
        private long above, below;

        Circuit look(Circuit now, int n) {
            trial.takeFrom(now);
            trial.passYears(n, 0);
            return trial;
        }

        int firstYearAs(Circuit now, int man, int state) {
            trial.takeFrom(now);
            if (!trial.isMan(man)) {
                return NONE;
            }
            for (int passed = 0; passed <= MOST_AHEAD; passed++) {
                if (trial.how[man] == state) {
                    return passed;
                }
                trial.passYears(1, 0);
            }
            return NONE;
        }

        void weighFences(Circuit now, int man, int n, int p) {
            above = 0;
            below = 1;
            int fenced = Math.max(0, Math.min(n, MOST_FENCED));
            for (int passed = 0; passed < fenced; passed++) {
                below *= 10;
            }
            for (int mended = 0; mended < 1 << fenced; mended++) {
                trial.takeFrom(now);
                trial.passYears(fenced, mended);
                if (trial.isMan(man) && trial.how[man] == SETTLED) {
                    above += casesOf(fenced, mended, p);
                }
            }
            reduce();
        }

        private static long casesOf(int n, int mended, int p) {
            long cases = 1;
            for (int passed = 0; passed < n; passed++) {
                cases *= (mended >> passed & 1) == 1 ? p : 10 - p;
            }
            return cases;
        }

        private void reduce() {
            long divisor = below;
            long rest = above;
            // two numbers of at most nine figures come to their divisor in far fewer steps
            for (int steps = 0; steps < 100 && rest != 0; steps++) {
                long next = divisor % rest;
                divisor = rest;
                rest = next;
            }
            if (divisor != 0) {
                above /= divisor;
                below /= divisor;
            }
        }

        long above() {
            return above;
        }

        long below() {
            return below;
        }

        Circuit lookByDraws(Circuit now, int n, int seed) {
            trial.takeFrom(now);
            long x = seed;
            for (int passed = 0; passed < n; passed++) {
                x = x * 16807 % 2147483647L;
                actOnDraw(x);
                trial.passYears(1, 0);
            }
            return trial;
        }

        private void actOnDraw(long x) {
            if (trial.judges <= 0 || trial.men <= 0) {
                return;
            }
            int judge = (int) (x % trial.judges);
            int man = (int) (x % trial.men);
            if (!trial.isJudge(judge) || !trial.isMan(man)) {
                return;
            }
            if (x % 3 == 0) {
                trial.open[judge] = 1 - trial.open[judge];
            }
            if (x % 4 == 0 && trial.how[man] == OUT) {
                trial.tryAgain(man, judge, (int) (x % 9) + 1);
            }
        }
    }

    /** What is best to be done now: whom to send where, gates, letting off, turns. */
    private static final class Planner {
        static final int MOST_TURNS = 4;
        private static final int SETS = 1 << MOST_MEN, NOBODY = -1, MORE_YEARS = 5;
        /** One man done outweighs all trust there can be, so that both are held in one number. */
        private static final int WORTH_OF_DONE = 1000;

        private final Circuit start = new Circuit();
        private final Circuit trial = new Circuit();
        private final int[] worths = new int[MOST_JUDGES * SETS];
        private final int[] sentTo = new int[MOST_MEN];
        private final int[] bestTo = new int[MOST_MEN];
        private int waiting, set, worth;
        private int one, other, turns, span;

        int bestSet() {
            return set;
        }

        int bestWorth() {
            return worth;
        }

        int sentDone() {
            return worth / WORTH_OF_DONE;
        }

        int sentJudge(int man) {
            return start.isMan(man) ? bestTo[man] : NONE;
        }

        /** What goes on by one judge is apart from all others, so sets of men are weighed judge by judge. */
        void planSending(Circuit now, int n) {
            start.takeFrom(now);
            waiting = start.whoAre(WAITS);
            for (int judge = 0; judge < start.judges; judge++) {
                for (int sent = 0; sent < SETS; sent++) {
                    if ((sent & ~waiting) == 0) {
                        worths[judge * SETS + sent] = worthOfSending(judge, sent, n);
                    }
                }
            }
            worth = -1;
            sendFrom(0);
        }

        private int worthOfSending(int judge, int sent, int n) {
            trial.takeFrom(start);
            for (int man = 0; man < trial.men; man++) {
                if ((waiting >> man & 1) == 1) {
                    trial.judgeOf[man] = (sent >> man & 1) == 1 ? judge : NOBODY;
                }
            }
            trial.passYears(n, 0);
            return trial.doneWith(judge) * WORTH_OF_DONE + trial.trustTowards(judge);
        }

        /** Tries the judges of this man and those behind him, the first judges first. */
        private void sendFrom(int man) {
            if (!start.isMan(man)) {
                weighSending();
                return;
            }
            if ((waiting >> man & 1) == 0) {
                sentTo[man] = start.judgeOf[man];
                sendFrom(man + 1);
                return;
            }
            for (int judge = 0; judge < start.judges; judge++) {
                sentTo[man] = judge;
                sendFrom(man + 1);
            }
        }

        private void weighSending() {
            int sum = 0;
            for (int judge = 0; judge < start.judges; judge++) {
                int sent = 0;
                for (int man = 0; man < start.men; man++) {
                    sent |= sentTo[man] == judge ? 1 << man : 0;
                }
                sum += worths[judge * SETS + (sent & waiting)];
            }
            if (sum > worth) {
                worth = sum;
                System.arraycopy(sentTo, 0, bestTo, 0, MOST_MEN);
            }
        }

        void planGates(Circuit now, int n) {
            worth = -1;
            for (int opened = 0; opened < 1 << now.judges; opened++) {
                trial.takeFrom(now);
                for (int judge = 0; judge < trial.judges; judge++) {
                    trial.open[judge] = opened >> judge & 1;
                }
                trial.passYears(n, 0);
                int comes = trial.trustOfAll();
                if (comes > worth) {
                    worth = comes;
                    set = opened;
                }
            }
        }

        void planLettingOff(Circuit now, int n) {
            int serving = now.whoAre(WAITS) | now.whoAre(BESIDE);
            worth = MOST_MEN + 1;
            for (int off = 0; off < SETS; off++) {
                boolean isFewer = (off & ~serving) == 0 && Integer.bitCount(off) < worth;
                if (isFewer && nobodyWaitsWithout(now, off, n)) {
                    worth = Integer.bitCount(off);
                    set = off;
                }
            }
        }

        private boolean nobodyWaitsWithout(Circuit now, int off, int n) {
            trial.takeFrom(now);
            trial.letOff(off);
            trial.passYears(n, 0);
            return trial.whoAre(WAITS) == 0;
        }

        int playTurns(Circuit now, int judge, int otherJudge, int n, int years) {
            start.takeFrom(now);
            one = judge;
            other = otherJudge;
            turns = Math.min(n, MOST_TURNS);
            span = years;
            return playFrom(0);
        }

        /** What comes of it from this turn on; the start is left as it was. */
        private int playFrom(int turn) {
            if (turn >= turns) {
                return outcome();
            }
            boolean wantsGreat = turn % 2 == 0;
            int mover = wantsGreat ? one : other;
            int best = playFrom(turn + 1);
            for (int man = 0; man < start.men; man++) {
                if (start.judgeOf[man] == mover && start.isServing(man)) {
                    int before = start.left[man];
                    start.left[man] = Math.min(MOST_YEARS, before + MORE_YEARS);
                    int comes = playFrom(turn + 1);
                    start.left[man] = before;
                    best = wantsGreat ? Math.max(best, comes) : Math.min(best, comes);
                }
            }
            return best;
        }

        private int outcome() {
            trial.takeFrom(start);
            trial.passYears(span, 0);
            return trial.trustTowards(one) - trial.trustTowards(other);
        }
    }

    /** All that fits to a row that tells the trust of a man, year by year. */
    private static final class Fitting {
        static final int OF_KIND = 0, OF_TRUST = 1, OF_SEVERE = 2, OF_LIKE = 3;

        private final Circuit trial = new Circuit();
        private final int[] told = new int[MOST_TOLD];
        private int toldYears, toldMan;
        private int bits, howMany, least;

        void hear(int man, Rows rows, int row, int i, int n) {
            toldMan = man;
            toldYears = Math.min(n, MOST_TOLD);
            for (int year = 0; year < toldYears; year++) {
                told[year] = rows.itemAt(row, i + year);
            }
        }

        /** Tries each number of a range in the place of one that a man, a judge or the law has. */
        void tryAll(Circuit now, int part, int of, int from, int to) {
            bits = 0;
            howMany = 0;
            least = NONE;
            for (int v = from; v <= to; v++) {
                trial.takeFrom(now);
                suppose(part, of, v);
                if (fits()) {
                    bits |= 1 << v;
                    howMany++;
                    least = least == NONE ? v : least;
                }
            }
        }

        private void suppose(int part, int of, int v) {
            if (part == OF_LIKE) {
                trial.like = v;
            } else if (part == OF_SEVERE && trial.isJudge(of)) {
                trial.severe[of] = v;
            } else if (part == OF_KIND && trial.isMan(of)) {
                trial.kind[of] = v;
            } else if (part == OF_TRUST && trial.isMan(of)) {
                trial.trust[of] = v;
            }
        }

        private boolean fits() {
            if (!trial.isMan(toldMan)) {
                return false;
            }
            for (int year = 0; year < toldYears; year++) {
                trial.passYears(1, 0);
                if (trial.trust[toldMan] != told[year]) {
                    return false;
                }
            }
            return true;
        }

        /** Of ranges within 0 .. 31 alone, as a set has no more bits. */
        int bits() {
            return bits;
        }

        int howMany() {
            return howMany;
        }

        int least() {
            return least;
        }
    }

    /** Asks of a man, by bodies, and the trace that these leave. */
    private static final class Asks {
        static final int OF_SIZE = 0, OF_MARK = 1;
        private static final int MOST_TRACED = 16, DEEPEST = 16, UNTOLD = 0;
        /** The body that is told for each kind; that of MAN is the one lent to all. */
        private static final int[] SIZE_BODIES = {10, 11, 12, UNTOLD, 13, 14};
        private static final int[] MARK_BODIES = {20, 21, 24, 22, 23, UNTOLD};

        private final int[] trace = new int[MOST_TRACED];
        private int length;
        private int number, kind, left, trust;

        int askAnew(Circuit now, int man, int what) {
            if (!now.isMan(man)) {
                return 0;
            }
            number = man;
            kind = now.kind[man];
            left = now.left[man];
            trust = now.trust[man];
            length = 0;
            return answer(what, 0);
        }

        int traced(int i) {
            return i >= 0 && i < length && i < MOST_TRACED ? trace[i] : NONE;
        }

        private int answer(int what, int depth) {
            return depth > DEEPEST ? 0 : run(bodyFor(what), depth + 1);
        }

        private int bodyFor(int what) {
            int nearest = kind;
            for (int steps = 0; steps < NEAREST.length; steps++) {
                if (nearest < 0 || nearest >= NEAREST.length) {
                    return UNTOLD;
                }
                int body = what == OF_SIZE ? SIZE_BODIES[nearest] : MARK_BODIES[nearest];
                if (body != UNTOLD) {
                    return body;
                }
                nearest = NEAREST[nearest];
            }
            return UNTOLD;
        }

        private int run(int body, int depth) {
            if (depth > DEEPEST) {
                return 0;
            }
            leave(body);
            switch (body) {
                case 10: return left;
                case 11: return run(10, depth + 1) + answer(OF_MARK, depth + 1);
                case 12: return -run(11, depth + 1);
                case 13: return run(10, depth + 1) - 100;
                case 14: return 2 * run(13, depth + 1);
                case 20: return number;
                case 21: return run(20, depth + 1) + trust;
                case 22: return run(21, depth + 1) - 1000;
                case 23: return run(20, depth + 1) - answer(OF_SIZE, depth + 1);
                case 24: return 2 * run(21, depth + 1);
                default: return 0;
            }
        }

        private void leave(int body) {
            if (length >= 0 && length < MOST_TRACED) {
                trace[length] = body;
                length++;
            }
        }
    }
}
