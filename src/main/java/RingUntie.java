/**
 * Parts of a program that need one another in rings, and the ways to untie them.
 * What each call answers is told by the document's promises; README.md shows the use.
 */
public final class RingUntie {
    public static final int NONE = -1, BAD = -2, STATE = -3, FULL = -4, GUARDED = -5, BIG = -6;

    private static final int MAX_PARTS = 10;
    private static final int MAX_ROUTINES = 20;
    private static final int MAX_FIELDS = 10;
    private static final int MAX_NEWS = 8;
    private static final int MAX_ACTS = 10;
    private static final int MAX_HEARERS = 6;
    private static final int MAX_TAPE = 120;
    private static final int MAX_KEPT = 20;
    private static final int MAX_RUN_ACTS = 400;
    private static final int MAX_AT_WORK = 30;
    private static final int MAX_PRICE = 99;
    private static final int MAX_DAY = 999;
    // Above all that TIES can cost together.
    private static final int TOO_DEAR = 1000000;
    private static final int MODULUS = 9973;
    private static final int FAULT_BASE = -10;

    // What lies in a PART, as add(), where() and move() tell it.
    private static final int ROUTINE = 0, FIELD = 1, NEWS = 2, KINDS = 3;
    private static final int[] LIMITS = {MAX_ROUTINES, MAX_FIELDS, MAX_NEWS};

    // Sorts of ACTS.
    private static final int ADD = 0, MUL = 1, PUT = 2, GET = 3, CALL = 4, ODD = 5, TELL = 6, ACT_SORTS = 7;
    // The words of these sorts, each with the blank behind it, and where each begins.
    private static final String WORDS = "add mul put get call odd news ";
    private static final int[] WORD_STARTS = {0, 4, 8, 12, 16, 21, 25};
    // Above every number of an ACT.
    private static final int ACT_BASE = 1000;

    // Sorts of TIES.
    private static final int BY_CALL = 0, BY_FIELD = 1, BY_NEWS = 2, BY_FACE = 3, TIE_SORTS = 4;

    private Program now = new Program();
    // The program as it was ahead of the change that is being made.
    private Program ahead = new Program();
    private final Past past = new Past();
    private final Tape tape = new Tape();
    private final Runner runner = new Runner();
    private final Ties ties = new Ties();
    private final Ties tiesAhead = new Ties();
    private final Order order = new Order();
    private final Bound lowerBound = new Bound();
    private final int[] prices = new int[TIE_SORTS];
    private int today = 0;
    private boolean guardIsOn = false;
    private int guardedTie = NONE;
    private int actsDone = 0;

    public RingUntie() {
        for (int sort = 0; sort < TIE_SORTS; sort++) {
            prices[sort] = 1;
        }
    }

    // ---- the program

    public int part() {
        if (now.parts >= MAX_PARTS) {
            return FULL;
        }
        ahead.copyFrom(now);
        int number = now.addPart();
        keepChange();
        return number;
    }

    public int add(int what, int part) {
        if (!isKind(what) || !now.hasPart(part)) {
            return NONE;
        }
        if (now.isFull(what)) {
            return FULL;
        }
        ahead.copyFrom(now);
        int number = now.addThing(what, part);
        keepChange();
        return number;
    }

    public int where(int what, int i) {
        return now.has(what, i) ? now.homeOf(what, i) : NONE;
    }

    public int feed(long w, int n) {
        if (n < 1 || n > 8) {
            return BAD;
        }
        return tape.append(w, n) ? tape.size : FULL;
    }

    public int body(int routine) {
        if (!now.has(ROUTINE, routine)) {
            return NONE;
        }
        if (now.isFace(routine)) {
            return STATE;
        }
        int fault = tape.readActs();
        tape.size = 0;
        if (fault != NONE) {
            return FAULT_BASE - fault;
        }
        if (!now.knowsAllOf(tape)) {
            return BAD;
        }
        ahead.copyFrom(now);
        now.setBody(routine, tape);
        return settle(tape.acts, NONE);
    }

    public int act(int routine, int i, int what) {
        if (!now.hasAct(routine, i)) {
            return NONE;
        }
        switch (what) {
            case 0: return now.sortOf(routine, i);
            case 1: return now.numberOf(routine, i);
            default: return NONE;
        }
    }

    public int hear(int news, int routine) {
        if (!now.has(NEWS, news) || !now.has(ROUTINE, routine)) {
            return NONE;
        }
        if (now.hears(news, routine) || now.isFace(routine)) {
            return STATE;
        }
        if (now.hearerTotals[news] >= MAX_HEARERS) {
            return FULL;
        }
        ahead.copyFrom(now);
        now.addHearer(news, routine);
        return settle(now.hearerTotals[news], NONE);
    }

    public int run(int routine, int a) {
        if (!now.has(ROUTINE, routine)) {
            return NONE;
        }
        if (a < 0 || a >= MODULUS) {
            return BAD;
        }
        int end = runner.runFrom(now, routine, a);
        if (end != BIG) {
            actsDone = runner.acts;
        }
        return end;
    }

    public int done() {
        return actsDone;
    }

    // ---- ties and rings

    public int price(int sort, int p) {
        if (sort < 0 || sort >= TIE_SORTS) {
            return NONE;
        }
        if (p < 0 || p > MAX_PRICE) {
            return BAD;
        }
        int before = prices[sort];
        prices[sort] = p;
        return before;
    }

    public int tie(int p, int q, int what) {
        if (!isPair(p, q)) {
            return NONE;
        }
        readTies();
        switch (what) {
            case 0: return ties.counts[pair(p, q)];
            case 1: return ties.costs[pair(p, q)];
            default: return NONE;
        }
    }

    public int allow(int p, int q, int day) {
        if (!isPair(p, q)) {
            return NONE;
        }
        if (day < 0 || day > MAX_DAY) {
            return BAD;
        }
        int before = now.allowed[pair(p, q)];
        now.allowed[pair(p, q)] = day;
        return before;
    }

    public int day(int d) {
        if (d < today || d > MAX_DAY) {
            return BAD;
        }
        int before = today;
        today = d;
        return before;
    }

    public int group(int p) {
        if (!now.hasPart(p)) {
            return NONE;
        }
        readTies();
        return ties.web.leastOfGroup(p);
    }

    public int groups() {
        readTies();
        return ties.web.countGroups();
    }

    public int ring(int p, int q, int what, int i) {
        if (!isPair(p, q)) {
            return NONE;
        }
        readTies();
        int size = ties.web.findRing(p, q);
        if (size == 0) {
            return NONE;
        }
        switch (what) {
            case 0: return size;
            case 1: return i >= 0 && i < size ? ties.web.ring[i] : NONE;
            default: return NONE;
        }
    }

    public int choice() {
        readTies();
        return order.arrange(ties);
    }

    public int chosen(int what, int i) {
        readTies();
        order.arrange(ties);
        switch (what) {
            case 0: return i >= 0 && i < now.parts ? order.row[i] : NONE;
            case 1: return order.chosenTie(ties, i);
            default: return NONE;
        }
    }

    public int bound() {
        readTies();
        return lowerBound.boundOf(ties);
    }

    // ---- layers, the guard

    public int layer(int p) {
        if (!now.hasPart(p)) {
            return NONE;
        }
        readTies();
        return ties.web.countGroups() > 0 ? STATE : ties.web.layerOf(p);
    }

    public int worth() {
        readTies();
        return ties.web.countFreePairs();
    }

    public int breaks(long layers) {
        if (layers < 0) {
            return BAD;
        }
        int[] digits = ties.digits;
        long rest = layers;
        for (int p = 0; p < now.parts; p++) {
            digits[p] = (int) (rest % 10);
            rest /= 10;
        }
        if (rest != 0) {
            return BAD;
        }
        readTies();
        return ties.countBroken();
    }

    public int guard(int is) {
        if (is != 0 && is != 1) {
            return BAD;
        }
        int before = guardIsOn ? 1 : 0;
        guardIsOn = is == 1;
        return before;
    }

    public int guarded() {
        return guardedTie;
    }

    // ---- undoing

    public int move(int what, int i, int part) {
        if (!now.has(what, i) || !now.hasPart(part)) {
            return NONE;
        }
        int home = now.homeOf(what, i);
        if (home == part || what == ROUTINE && now.isFace(i)) {
            return STATE;
        }
        ahead.copyFrom(now);
        now.setHome(what, i, part);
        return settle(home, NONE);
    }

    public int split(int part, int set) {
        if (!now.hasPart(part)) {
            return NONE;
        }
        if (set == 0 || !now.hasPlainRoutines(set)) {
            return BAD;
        }
        if (!now.allLieIn(part, set)) {
            return STATE;
        }
        if (now.parts >= MAX_PARTS) {
            return FULL;
        }
        ahead.copyFrom(now);
        int fresh = now.addPart();
        now.setHomes(set, fresh);
        return settle(fresh, NONE);
    }

    public int melt(int p, int q) {
        if (!now.hasPart(p) || !now.hasPart(q)) {
            return NONE;
        }
        if (p == q) {
            return BAD;
        }
        ahead.copyFrom(now);
        now.meltParts(p, q);
        return settle(now.parts, q);
    }

    public int turn(int routine, int i) {
        if (!now.hasAct(routine, i)) {
            return NONE;
        }
        if (now.sortOf(routine, i) != CALL || !now.canComeBetween(routine, i)) {
            return STATE;
        }
        if (now.isFull(NEWS)) {
            return FULL;
        }
        ahead.copyFrom(now);
        return settle(now.turnToNews(routine, i), NONE);
    }

    public int face(int routine, int i) {
        if (!now.hasAct(routine, i)) {
            return NONE;
        }
        if (!now.canComeBetween(routine, i)) {
            return STATE;
        }
        if (now.parts >= MAX_PARTS || now.isFull(ROUTINE)) {
            return FULL;
        }
        ahead.copyFrom(now);
        return settle(now.putFace(routine, i), NONE);
    }

    public int pull(int routine) {
        if (!now.has(ROUTINE, routine)) {
            return NONE;
        }
        if (!now.isFace(routine)) {
            return STATE;
        }
        ahead.copyFrom(now);
        return settle(now.pullFace(routine), NONE);
    }

    public int back() {
        if (past.size == 0) {
            return STATE;
        }
        now = past.takeBack(now);
        return past.size;
    }

    public int count(int what) {
        switch (what) {
            case 0: return now.parts;
            case 1: return now.totals[ROUTINE];
            case 2: return now.totals[FIELD];
            case 3: return now.totals[NEWS];
            case 4:
                readTies();
                return ties.countAll();
            case 5: return now.countActs();
            case 6: return now.countFaces();
            case 7: return past.size;
            case 8: return today;
            case 9: return tape.size;
            default: return NONE;
        }
    }

    // ---- what several calls share

    private static boolean isKind(int what) {
        return what >= 0 && what < KINDS;
    }

    private static int pair(int p, int q) {
        return p * MAX_PARTS + q;
    }

    private boolean isPair(int p, int q) {
        return now.hasPart(p) && now.hasPart(q) && p != q;
    }

    private void readTies() {
        ties.readFrom(now, prices, today);
    }

    /** Ends a change that was made on now: it is taken off again if the GUARD forbids it. */
    private int settle(int answer, int gone) {
        if (guardIsOn && isForbidden(gone)) {
            guardedTie = firstNewRingTie(gone);
            Program refused = now;
            now = ahead;
            ahead = refused;
            return GUARDED;
        }
        keepChange();
        return answer;
    }

    private void keepChange() {
        ahead = past.keep(ahead);
    }

    private boolean isForbidden(int gone) {
        tiesAhead.readFrom(ahead, prices, today);
        ties.readFrom(now, prices, today);
        return joinsParts(gone);
    }

    private boolean joinsParts(int gone) {
        for (int p = 0; p < now.parts; p++) {
            for (int q = p + 1; q < now.parts; q++) {
                int p0 = numberAhead(p, gone);
                int q0 = numberAhead(q, gone);
                if (ahead.hasPart(p0) && ahead.hasPart(q0)
                        && ties.web.areTogether(p, q) && !tiesAhead.web.areTogether(p0, q0)) {
                    return true;
                }
            }
        }
        return false;
    }

    private int firstNewRingTie(int gone) {
        for (int p = 0; p < now.parts; p++) {
            for (int q = 0; q < now.parts; q++) {
                if (ties.web.isRingTie(p, q)
                        && !wasRingTie(numberAhead(p, gone), numberAhead(q, gone))) {
                    return 10 * p + q;
                }
            }
        }
        return NONE;
    }

    private boolean wasRingTie(int p, int q) {
        return ahead.hasPart(p) && ahead.hasPart(q) && tiesAhead.web.isRingTie(p, q);
    }

    /** A melted PART leaves a gap: those behind it had a number more. */
    private static int numberAhead(int p, int gone) {
        return gone != NONE && p >= gone ? p + 1 : p;
    }

    // ---- the classes inside

    /** All that back() restores. Rows are flat, so that a copy is a few array copies. */
    private static final class Program {
        int parts = 0;
        final int[] totals = new int[KINDS];
        final int[] homes = new int[KINDS * MAX_ROUTINES];
        final int[] bodySizes = new int[MAX_ROUTINES];
        // Each ACT as ACT_BASE times its sort and its number: a kept program stays small so.
        final int[] acts = new int[MAX_ROUTINES * MAX_ACTS];
        // For a FACE ROUTINE the ROUTINE behind it, for any other one NONE.
        final int[] faced = new int[MAX_ROUTINES];
        final int[] hearerTotals = new int[MAX_NEWS];
        final int[] hearers = new int[MAX_NEWS * MAX_HEARERS];
        final int[] allowed = new int[MAX_PARTS * MAX_PARTS];

        void copyFrom(Program other) {
            parts = other.parts;
            System.arraycopy(other.totals, 0, totals, 0, totals.length);
            System.arraycopy(other.homes, 0, homes, 0, homes.length);
            System.arraycopy(other.bodySizes, 0, bodySizes, 0, bodySizes.length);
            System.arraycopy(other.acts, 0, acts, 0, acts.length);
            System.arraycopy(other.faced, 0, faced, 0, faced.length);
            System.arraycopy(other.hearerTotals, 0, hearerTotals, 0, hearerTotals.length);
            System.arraycopy(other.hearers, 0, hearers, 0, hearers.length);
            System.arraycopy(other.allowed, 0, allowed, 0, allowed.length);
        }

        boolean hasPart(int p) {
            return p >= 0 && p < parts;
        }

        boolean has(int what, int i) {
            return isKind(what) && i >= 0 && i < totals[what];
        }

        boolean hasAct(int routine, int i) {
            return has(ROUTINE, routine) && i >= 0 && i < bodySizes[routine];
        }

        boolean isFull(int what) {
            return totals[what] >= LIMITS[what];
        }

        boolean isFace(int routine) {
            return faced[routine] != NONE;
        }

        int homeOf(int what, int i) {
            return homes[what * MAX_ROUTINES + i];
        }

        void setHome(int what, int i, int part) {
            homes[what * MAX_ROUTINES + i] = part;
        }

        int sortOf(int routine, int i) {
            return acts[routine * MAX_ACTS + i] / ACT_BASE;
        }

        int numberOf(int routine, int i) {
            return acts[routine * MAX_ACTS + i] % ACT_BASE;
        }

        void setAct(int routine, int i, int sort, int number) {
            acts[routine * MAX_ACTS + i] = ACT_BASE * sort + number;
        }

        int addPart() {
            parts++;
            return parts - 1;
        }

        int addThing(int what, int part) {
            int number = totals[what];
            totals[what]++;
            setHome(what, number, part);
            if (what == ROUTINE) {
                faced[number] = NONE;
            }
            return number;
        }

        boolean knowsAllOf(Tape tape) {
            for (int i = 0; i < tape.acts; i++) {
                int kind = kindToldBy(tape.sorts[i]);
                if (kind != NONE && !has(kind, tape.numbers[i])) {
                    return false;
                }
            }
            return true;
        }

        /** Of what an ACT of a sort tells: ROUTINE, FIELD, NEWS, or NONE of them. */
        static int kindToldBy(int sort) {
            switch (sort) {
                case PUT: case GET: return FIELD;
                case CALL: case ODD: return ROUTINE;
                case TELL: return NEWS;
                default: return NONE;
            }
        }

        void setBody(int routine, Tape tape) {
            bodySizes[routine] = tape.acts;
            for (int i = 0; i < tape.acts; i++) {
                setAct(routine, i, tape.sorts[i], tape.numbers[i]);
            }
        }

        int hearerOf(int news, int i) {
            return hearers[news * MAX_HEARERS + i];
        }

        boolean hears(int news, int routine) {
            for (int i = 0; i < hearerTotals[news]; i++) {
                if (hearerOf(news, i) == routine) {
                    return true;
                }
            }
            return false;
        }

        void addHearer(int news, int routine) {
            hearers[news * MAX_HEARERS + hearerTotals[news]] = routine;
            hearerTotals[news]++;
        }

        boolean hasPlainRoutines(int set) {
            if (set >> totals[ROUTINE] != 0) {
                return false;
            }
            for (int r = 0; r < totals[ROUTINE]; r++) {
                if (isIn(r, set) && isFace(r)) {
                    return false;
                }
            }
            return true;
        }

        boolean allLieIn(int part, int set) {
            for (int r = 0; r < totals[ROUTINE]; r++) {
                if (isIn(r, set) && homeOf(ROUTINE, r) != part) {
                    return false;
                }
            }
            return true;
        }

        void setHomes(int set, int part) {
            for (int r = 0; r < totals[ROUTINE]; r++) {
                if (isIn(r, set)) {
                    setHome(ROUTINE, r, part);
                }
            }
        }

        void meltParts(int p, int q) {
            for (int what = 0; what < KINDS; what++) {
                for (int i = 0; i < totals[what]; i++) {
                    int home = homeOf(what, i) == q ? p : homeOf(what, i);
                    setHome(what, i, home > q ? home - 1 : home);
                }
            }
            parts--;
            dropAllowed(q);
        }

        /** Takes q out of what is ALLOWED; the last row and column are free for a new PART. */
        private void dropAllowed(int q) {
            for (int a = 0; a < parts; a++) {
                for (int b = 0; b < parts; b++) {
                    allowed[pair(a, b)] = allowed[pair(numberAhead(a, q), numberAhead(b, q))];
                }
            }
            for (int a = 0; a <= parts; a++) {
                allowed[pair(a, parts)] = 0;
                allowed[pair(parts, a)] = 0;
            }
        }

        /** Whether a NEWS or a FACE may be put between a ROUTINE's ACT and the ROUTINE it calls. */
        boolean canComeBetween(int routine, int i) {
            return kindToldBy(sortOf(routine, i)) == ROUTINE
                    && !isFace(routine) && !isFace(numberOf(routine, i));
        }

        int turnToNews(int routine, int i) {
            int told = numberOf(routine, i);
            int news = addThing(NEWS, homeOf(ROUTINE, told));
            addHearer(news, told);
            setAct(routine, i, TELL, news);
            return news;
        }

        int putFace(int routine, int i) {
            int told = numberOf(routine, i);
            int between = addThing(ROUTINE, addPart());
            faced[between] = told;
            bodySizes[between] = 1;
            setAct(between, 0, CALL, told);
            setAct(routine, i, sortOf(routine, i), between);
            return between;
        }

        int pullFace(int face) {
            int told = faced[face];
            int changed = 0;
            for (int r = 0; r < totals[ROUTINE]; r++) {
                for (int i = 0; i < bodySizes[r]; i++) {
                    if (kindToldBy(sortOf(r, i)) == ROUTINE && numberOf(r, i) == face) {
                        setAct(r, i, sortOf(r, i), told);
                        changed++;
                    }
                }
            }
            faced[face] = NONE;
            bodySizes[face] = 0;
            return changed;
        }

        int countActs() {
            int sum = 0;
            for (int r = 0; r < totals[ROUTINE]; r++) {
                sum += bodySizes[r];
            }
            return sum;
        }

        int countFaces() {
            int sum = 0;
            for (int r = 0; r < totals[ROUTINE]; r++) {
                if (isFace(r)) {
                    sum++;
                }
            }
            return sum;
        }
    }

    private static boolean isIn(int i, int set) {
        return (set >> i & 1) != 0;
    }

    /** The programs as they were ahead of the latest changes, in a circle of rows. */
    private static final class Past {
        final Program[] kept = new Program[MAX_KEPT];
        int first = 0;
        int size = 0;

        /** Keeps a program, and hands out one whose content is not needed any more. */
        Program keep(Program program) {
            int slot = (first + size) % MAX_KEPT;
            Program spare = kept[slot];
            kept[slot] = program;
            if (size < MAX_KEPT) {
                size++;
            } else {
                first = (first + 1) % MAX_KEPT;
            }
            return spare == null ? new Program() : spare;
        }

        /** Hands out the latest one; the one that it replaces waits in its place to be used again. */
        Program takeBack(Program replaced) {
            if (size == 0) {
                return replaced;
            }
            size--;
            int slot = (first + size) % MAX_KEPT;
            Program latest = kept[slot];
            kept[slot] = replaced;
            return latest == null ? replaced : latest;
        }
    }

    /** THE TAPE, and the ACTS that were last read from it. */
    private static final class Tape {
        final int[] bytes = new int[MAX_TAPE];
        int size = 0;
        int at = 0;
        int acts = 0;
        final int[] sorts = new int[MAX_ACTS];
        final int[] numbers = new int[MAX_ACTS];

        boolean append(long w, int n) {
            if (size + n > MAX_TAPE) {
                return false;
            }
            for (int i = n - 1; i >= 0; i--) {
                bytes[size] = (int) (w >> 8 * i & 255);
                size++;
            }
            return true;
        }

        /** Reads the whole TAPE: the FAULT, or NONE. */
        int readActs() {
            at = 0;
            acts = 0;
            boolean more = size > 0;
            for (int i = 0; i < MAX_ACTS && more; i++) {
                if (!readWord(i) || !readNumber(i)) {
                    return at;
                }
                acts++;
                more = acts < MAX_ACTS && peek() == ';';
                if (more) {
                    at++;
                }
            }
            return at < size ? at : NONE;
        }

        private int peek() {
            return at < size ? bytes[at] : NONE;
        }

        private boolean readWord(int i) {
            int sort = sortBegunBy(peek());
            if (sort == NONE) {
                return false;
            }
            sorts[i] = sort;
            for (int k = WORD_STARTS[sort]; k < WORDS.length(); k++) {
                char due = WORDS.charAt(k);
                if (peek() != due) {
                    return false;
                }
                at++;
                if (due == ' ') {
                    return true;
                }
            }
            return false;
        }

        /** No two words begin alike. */
        private static int sortBegunBy(int letter) {
            for (int sort = 0; sort < ACT_SORTS; sort++) {
                if (WORDS.charAt(WORD_STARTS[sort]) == letter) {
                    return sort;
                }
            }
            return NONE;
        }

        private boolean readNumber(int i) {
            int digits = 0;
            int number = 0;
            for (int k = 0; k < 3 && peek() >= '0' && peek() <= '9'; k++) {
                number = 10 * number + peek() - '0';
                digits++;
                at++;
            }
            numbers[i] = number;
            return digits > 0;
        }
    }

    /** One RUN of a ROUTINE. */
    private static final class Runner {
        final int[] values = new int[MAX_FIELDS];
        int a = 0;
        int acts = 0;
        boolean isBig = false;

        int runFrom(Program program, int routine, int start) {
            for (int i = 0; i < MAX_FIELDS; i++) {
                values[i] = 0;
            }
            a = start;
            acts = 0;
            isBig = false;
            work(program, routine, 1);
            return isBig ? BIG : a;
        }

        private void work(Program program, int routine, int atWork) {
            isBig = isBig || atWork > MAX_AT_WORK;
            int size = program.bodySizes[routine];
            for (int i = 0; i < size && !isBig; i++) {
                acts++;
                isBig = acts > MAX_RUN_ACTS;
                if (!isBig) {
                    perform(program, program.sortOf(routine, i), program.numberOf(routine, i), atWork);
                }
            }
        }

        private void perform(Program program, int sort, int n, int atWork) {
            switch (sort) {
                case ADD:
                    a = (a + n) % MODULUS;
                    break;
                case MUL:
                    a = a * n % MODULUS;
                    break;
                case PUT:
                    values[n] = a;
                    break;
                case GET:
                    a = (a + values[n]) % MODULUS;
                    break;
                case CALL:
                    work(program, n, atWork + 1);
                    break;
                case ODD:
                    if (a % 2 == 1) {
                        work(program, n, atWork + 1);
                    }
                    break;
                default:
                    tellHearers(program, n, atWork);
                    break;
            }
        }

        private void tellHearers(Program program, int news, int atWork) {
            for (int i = 0; i < program.hearerTotals[news] && !isBig; i++) {
                work(program, program.hearerOf(news, i), atWork + 1);
            }
        }
    }

    /** The TIES of a program: by how many, at what PRICE, and the web that they make. */
    private static final class Ties {
        final int[] counts = new int[MAX_PARTS * MAX_PARTS];
        final int[] costs = new int[MAX_PARTS * MAX_PARTS];
        final int[] digits = new int[MAX_PARTS];
        final Web web = new Web();

        void readFrom(Program program, int[] prices, int today) {
            for (int i = 0; i < counts.length; i++) {
                counts[i] = 0;
                costs[i] = 0;
            }
            for (int r = 0; r < program.totals[ROUTINE]; r++) {
                if (program.isFace(r)) {
                    note(program.homeOf(ROUTINE, program.faced[r]), program.homeOf(ROUTINE, r), prices[BY_FACE]);
                } else {
                    readBody(program, r, prices);
                }
            }
            readHearers(program, prices);
            dropAllowed(program, today);
            web.link(counts, program.parts);
        }

        private void note(int p, int q, int price) {
            if (p != q) {
                counts[pair(p, q)]++;
                costs[pair(p, q)] += price;
            }
        }

        private void readBody(Program program, int routine, int[] prices) {
            int p = program.homeOf(ROUTINE, routine);
            for (int i = 0; i < program.bodySizes[routine]; i++) {
                int kind = Program.kindToldBy(program.sortOf(routine, i));
                if (kind != NONE) {
                    note(p, program.homeOf(kind, program.numberOf(routine, i)), prices[tieSortOf(kind)]);
                }
            }
        }

        private static int tieSortOf(int kind) {
            switch (kind) {
                case ROUTINE: return BY_CALL;
                case FIELD: return BY_FIELD;
                default: return BY_NEWS;
            }
        }

        private void readHearers(Program program, int[] prices) {
            for (int n = 0; n < program.totals[NEWS]; n++) {
                for (int i = 0; i < program.hearerTotals[n]; i++) {
                    int p = program.homeOf(ROUTINE, program.hearerOf(n, i));
                    note(p, program.homeOf(NEWS, n), prices[BY_NEWS]);
                }
            }
        }

        private void dropAllowed(Program program, int today) {
            for (int i = 0; i < counts.length; i++) {
                if (program.allowed[i] > today) {
                    counts[i] = 0;
                    costs[i] = 0;
                }
            }
        }

        int countAll() {
            int sum = 0;
            for (int i = 0; i < counts.length; i++) {
                if (counts[i] > 0) {
                    sum++;
                }
            }
            return sum;
        }

        /** How many TIES break the layers that stand in digits. */
        int countBroken() {
            int sum = 0;
            for (int p = 0; p < web.size; p++) {
                for (int q = 0; q < web.size; q++) {
                    if (web.isTie(p, q) && digits[p] <= digits[q]) {
                        sum++;
                    }
                }
            }
            return sum;
        }
    }

    /** Which PART NEEDS which, as sets of bits, and what follows from that alone. */
    private static final class Web {
        int size = 0;
        final int[] needs = new int[MAX_PARTS];
        final int[] reach = new int[MAX_PARTS];
        // How many steps it is from each PART to the one that was measured last; NONE: no way.
        final int[] steps = new int[MAX_PARTS];
        final int[] levels = new int[MAX_PARTS];
        final int[] ring = new int[MAX_PARTS];
        int ringSize = 0;

        /** There is a TIE where a weight (by pair) is above 0. */
        void link(int[] weights, int parts) {
            size = parts;
            for (int p = 0; p < size; p++) {
                needs[p] = 0;
                for (int q = 0; q < size; q++) {
                    if (weights[pair(p, q)] > 0) {
                        needs[p] |= 1 << q;
                    }
                }
                reach[p] = needs[p];
            }
            for (int between = 0; between < size; between++) {
                for (int p = 0; p < size; p++) {
                    if (isIn(between, reach[p])) {
                        reach[p] |= reach[between];
                    }
                }
            }
        }

        boolean isTie(int p, int q) {
            return isIn(q, needs[p]);
        }

        boolean areTogether(int p, int q) {
            return p == q || isIn(q, reach[p]) && isIn(p, reach[q]);
        }

        boolean isRingTie(int p, int q) {
            return isTie(p, q) && isIn(p, reach[q]);
        }

        int leastOfGroup(int p) {
            for (int q = 0; q < p; q++) {
                if (areTogether(p, q)) {
                    return q;
                }
            }
            return p;
        }

        /** Groups of one PART alone do not count. A PART that comes back to itself has another with it. */
        int countGroups() {
            int sum = 0;
            for (int p = 0; p < size; p++) {
                if (isIn(p, reach[p]) && leastOfGroup(p) == p) {
                    sum++;
                }
            }
            return sum;
        }

        /** Right only where no GROUP has two: then no way is longer than there are PARTS. */
        int layerOf(int part) {
            for (int p = 0; p < size; p++) {
                levels[p] = 0;
            }
            for (int round = 1; round < size; round++) {
                for (int p = 0; p < size; p++) {
                    for (int q = 0; q < size; q++) {
                        if (isTie(p, q) && levels[p] <= levels[q]) {
                            levels[p] = levels[q] + 1;
                        }
                    }
                }
            }
            return levels[part];
        }

        int countFreePairs() {
            int sum = 0;
            for (int p = 0; p < size; p++) {
                for (int q = p + 1; q < size; q++) {
                    if (!isIn(q, reach[p]) && !isIn(p, reach[q])) {
                        sum++;
                    }
                }
            }
            return sum;
        }

        private void measureTo(int home) {
            for (int p = 0; p < size; p++) {
                steps[p] = NONE;
            }
            steps[home] = 0;
            int reached = 1 << home;
            for (int step = 1; step < size; step++) {
                int further = reached;
                for (int p = 0; p < size; p++) {
                    if (!isIn(p, reached) && (needs[p] & reached) != 0) {
                        steps[p] = step;
                        further |= 1 << p;
                    }
                }
                reached = further;
            }
        }

        /** Puts the LEAST RING of p, q into ring: how many PARTS it has, 0 if there is none. */
        int findRing(int p, int q) {
            ringSize = 0;
            if (isRingTie(p, q)) {
                measureTo(p);
                ring[0] = p;
                ringSize = steps[q] + 1;
                int at = q;
                for (int i = 1; i < ringSize; i++) {
                    ring[i] = at;
                    at = nextTowardsHome(at);
                }
            }
            return ringSize;
        }

        private int nextTowardsHome(int p) {
            for (int q = 0; q < size; q++) {
                if (isTie(p, q) && steps[q] == steps[p] - 1) {
                    return q;
                }
            }
            return p;
        }

        /** Puts the LEAST RING of the first TIE with the shortest one into ring: its size, or 0. */
        int findShortestRing() {
            int shortest = size + 1;
            int p0 = 0;
            int q0 = 0;
            for (int p = 0; p < size; p++) {
                measureTo(p);
                for (int q = 0; q < size; q++) {
                    if (isTie(p, q) && steps[q] != NONE && steps[q] + 1 < shortest) {
                        shortest = steps[q] + 1;
                        p0 = p;
                        q0 = q;
                    }
                }
            }
            return shortest > size ? 0 : findRing(p0, q0);
        }
    }

    /** The CHOICE: the best row for all sets of PARTS that may stand ahead, from the fullest on. */
    private static final class Order {
        private static final int HALF = 5;
        private static final int HALF_SETS = 1 << HALF;

        // What the row was last made for, so that one CHOICE that is asked for often is made once.
        int size = NONE;
        final int[] costs = new int[MAX_PARTS * MAX_PARTS];
        // The least that the PARTS which are not in a set can cost behind it.
        final int[] least = new int[1 << MAX_PARTS];
        // What the TIES of a PART into a set cost, for sets of the lower and of the upper half.
        final int[] low = new int[MAX_PARTS * HALF_SETS];
        final int[] high = new int[MAX_PARTS * HALF_SETS];
        final int[] row = new int[MAX_PARTS];
        final int[] places = new int[MAX_PARTS];

        /** Makes row and places for these TIES: what the CHOICE costs. */
        int arrange(Ties ties) {
            if (!isMadeFor(ties)) {
                size = ties.web.size;
                System.arraycopy(ties.costs, 0, costs, 0, costs.length);
                sumHalves();
                weighSets();
                makeRow();
            }
            return least[0];
        }

        private boolean isMadeFor(Ties ties) {
            if (size != ties.web.size) {
                return false;
            }
            for (int i = 0; i < costs.length; i++) {
                if (costs[i] != ties.costs[i]) {
                    return false;
                }
            }
            return true;
        }

        private void sumHalves() {
            for (int p = 0; p < size; p++) {
                for (int top = 0; top < HALF; top++) {
                    int first = p * HALF_SETS + (1 << top);
                    for (int rest = 0; rest < 1 << top; rest++) {
                        low[first + rest] = low[p * HALF_SETS + rest] + costs[pair(p, top)];
                        high[first + rest] = high[p * HALF_SETS + rest] + costs[pair(p, top + HALF)];
                    }
                }
            }
        }

        private int costBehind(int p, int set) {
            return low[p * HALF_SETS + set % HALF_SETS] + high[p * HALF_SETS + set / HALF_SETS];
        }

        private void weighSets() {
            int all = (1 << size) - 1;
            least[all] = 0;
            for (int set = all - 1; set >= 0; set--) {
                int best = TOO_DEAR;
                for (int p = 0; p < size; p++) {
                    if (!isIn(p, set)) {
                        best = Math.min(best, costBehind(p, set) + least[set | 1 << p]);
                    }
                }
                least[set] = best;
            }
        }

        private void makeRow() {
            int set = 0;
            for (int place = 0; place < size; place++) {
                int p = firstBest(set);
                row[place] = p;
                places[p] = place;
                set |= 1 << p;
            }
        }

        private int firstBest(int set) {
            for (int p = 0; p < size; p++) {
                if (!isIn(p, set) && costBehind(p, set) + least[set | 1 << p] == least[set]) {
                    return p;
                }
            }
            return 0;
        }

        /** The i-th TIE that goes to a PART ahead, as 10 p + q, or NONE. */
        int chosenTie(Ties ties, int i) {
            int seen = 0;
            for (int p = 0; p < size; p++) {
                for (int q = 0; q < size; q++) {
                    if (ties.web.isTie(p, q) && places[q] < places[p]) {
                        if (seen == i) {
                            return 10 * p + q;
                        }
                        seen++;
                    }
                }
            }
            return NONE;
        }
    }

    /** The BOUND: PRICES are taken off ring by ring. */
    private static final class Bound {
        final int[] left = new int[MAX_PARTS * MAX_PARTS];
        final Web web = new Web();

        int boundOf(Ties ties) {
            System.arraycopy(ties.costs, 0, left, 0, left.length);
            int bound = 0;
            // Each round takes a TIE away, so there are never more rounds than pairs.
            for (int round = 0; round < left.length; round++) {
                web.link(left, ties.web.size);
                int size = web.findShortestRing();
                if (size == 0) {
                    break;
                }
                bound += takeLeastOff(size);
            }
            return bound;
        }

        private int takeLeastOff(int size) {
            int least = TOO_DEAR;
            for (int i = 0; i < size; i++) {
                least = Math.min(least, left[ringPair(i, size)]);
            }
            for (int i = 0; i < size; i++) {
                left[ringPair(i, size)] -= least;
            }
            return least;
        }

        private int ringPair(int i, int size) {
            return pair(web.ring[i], web.ring[i + 1 < size ? i + 1 : 0]);
        }
    }
}
