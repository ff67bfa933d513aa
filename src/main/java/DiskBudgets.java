/** A disk whose time is shared by budgets, as ../shared/DOC.md promises it. */
public final class DiskBudgets {
    public static final int NONE = -1;

    private static final int MOST_BYTES = 1600;
    private static final int MOST_PROCESSES = 6;
    private static final int MOST_STEPS = 6;
    private static final int MOST_LETTERS = 6;
    private static final int MOST_DIGITS = 4;
    private static final int MOST_TICK = 9999;
    private static final int MOST_AHEAD = 400;
    private static final int MOST_IDLE = 20;
    private static final int MOST_SLICE = 200;
    private static final int MOST_WEIGHT = 100;
    private static final int MOST_TAKE = 64;
    private static final int MOST_UNDONE = 20;
    private static final int MOST_SEEN_TICKS = 60;
    private static final int NO_QUEUE = 6;
    private static final int ACTIVE_KINDS = 7;
    /** Above every latency and every count; the library's own name for it is not on LANGUAGE's list. */
    private static final int ABOVE_ALL = 2147483647;

    private Plan plan = new Plan();
    private Plan draft = new Plan();
    private final Tape tape = new Tape();
    private final Reader reader = new Reader(tape, draft);
    private final State state = new State(plan);
    private final State scratch = new State(plan);
    private final State[] past = new State[MOST_UNDONE];
    private int pastNewest = 0;
    private int pastCount = 0;
    private final Seen seen = new Seen();
    private final Image picture = new Image();
    private final int[] refusals = new int[6];
    private final int[] groups = new int[(MOST_SEEN_TICKS + 1) * ACTIVE_KINDS];
    private int faultKind = 0;
    private int faultPlace = NONE;
    private long drawn = 1L;

    public DiskBudgets() {
        for (int i = 0; i < MOST_UNDONE; i++) {
            past[i] = new State(plan);
        }
    }

    // ---- the tape and the disk

    public int feed(int a, int b, int c, int d, int e) {
        if (tape.length + 20 > MOST_BYTES) {
            return refuse(0);
        }
        tape.addNumber(a);
        tape.addNumber(b);
        tape.addNumber(c);
        tape.addNumber(d);
        tape.addNumber(e);
        return tape.length;
    }

    public boolean end(int n) {
        if (n < 0 || n > tape.length) {
            refuse(0);
            return false;
        }
        tape.length = n;
        return true;
    }

    public int disk() {
        draft.clear();
        int statements = reader.readText(draft);
        tape.length = 0;
        faultKind = reader.fault;
        faultPlace = reader.place;
        if (faultKind != 0) {
            return refuse(1);
        }
        Plan former = plan;
        plan = draft;
        draft = former;
        state.begin(plan);
        pastCount = 0;
        seen.count = 0;
        return statements;
    }

    public int fault(int what) {
        switch (what) {
            case 0: return faultKind;
            case 1: return faultPlace;
            default: return NONE;
        }
    }

    // ---- what there is

    public int has(int what) {
        boolean none = state.active < 0;
        switch (what) {
            case 0: return plan.sectors;
            case 1: return plan.count;
            case 2: return state.tick;
            case 3: return state.head;
            case 4: return none ? NONE : state.active;
            case 5: return state.left;
            case 6: return none ? NONE : state.began;
            case 7: return state.isWaiting() ? state.until : NONE;
            case 8: return state.idle;
            case 9: return state.slice;
            case 10: return state.top;
            case 11: return state.kept.told();
            case 12: return seen.count;
            case 13: return pastCount;
            case 14: return (int) drawn;
            default: return NONE;
        }
    }

    public int letter(int process, int k) {
        if (!isProcess(process) || k < 0 || k >= MOST_LETTERS) {
            return NONE;
        }
        return plan.letters[process * MOST_LETTERS + k];
    }

    public int process(int process, int what) {
        if (!isProcess(process)) {
            return NONE;
        }
        Proc p = state.procs[process];
        switch (what) {
            case 0: return p.weight;
            case 1: return p.waits ? 0 : p.thinks;
            case 2: return p.waits ? 1 : 0;
            case 3: return p.place;
            case 4: return p.step;
            case 5: return p.out;
            case 6: return p.target;
            case 7: return p.misses;
            case 8: return p.on ? 1 : 0;
            case 9: return p.done;
            case 10: return p.sectors;
            case 11: return p.latencies;
            case 12: return p.greatest;
            default: return NONE;
        }
    }

    public long mean(int process) {
        if (!isProcess(process)) {
            return -1L;
        }
        Proc p = state.procs[process];
        if (p.done <= 0) {
            return -1L;
        }
        return bitsOfDouble((double) p.latencies / (double) p.done);
    }

    public int queue(int queue, int what) {
        if (!isProcess(queue)) {
            return NONE;
        }
        Queue q = state.queues[queue];
        switch (what) {
            case 0: return q.lying;
            case 1: return q.budget;
            case 2: return state.active == queue ? state.served : 0;
            case 3: return q.end;
            case 4: return q.farJumps();
            case 5: return q.isSeeky() ? 1 : 0;
            case 6: return q.latest;
            case 7: return q.raised;
            case 8: return state.weightOf(queue);
            case 9: return state.isBacklogged(queue) ? 1 : 0;
            case 10: return bitsOfFloat(q.start);
            case 11: return bitsOfFloat(q.finish);
            case 12: return bitsOfFloat(q.mean);
            default: return NONE;
        }
    }

    public int bits(int what) {
        if (!hasDisk()) {
            return NONE;
        }
        switch (what) {
            case 0: return bitsOfFloat(state.now);
            case 1: return bitsOfFloat(state.rate);
            default: return NONE;
        }
    }

    public int request(int queue, int k, int what) {
        if (queue == NONE) {
            if (k != 0 || state.left <= 0) {
                return NONE;
            }
            return Requests.tell(state.busy, 0, what);
        }
        if (!isProcess(queue) || k < 0) {
            return NONE;
        }
        int place = state.requests.placeOf(queue, k);
        return place < 0 ? NONE : Requests.tell(state.requests.cells, place, what);
    }

    public int next(int queue) {
        if (!isProcess(queue)) {
            return NONE;
        }
        int place = state.requests.nextOf(queue, state.head);
        return place < 0 ? NONE : state.requests.rankOf(place);
    }

    public int kept(int k, int what) {
        if (k < 0 || k >= state.kept.told()) {
            return NONE;
        }
        return state.kept.tell(k, what);
    }

    // ---- ahead

    public int later(int n, int process, int what) {
        if (!isProcess(process) || !isWithin(n, 0, MOST_AHEAD) || !isWithin(what, 0, 3)) {
            return NONE;
        }
        Proc p = runAhead(n).procs[process];
        switch (what) {
            case 0: return p.done;
            case 1: return p.sectors;
            case 2: return p.latencies;
            default: return p.greatest;
        }
    }

    public int share(int n, int process) {
        if (!isProcess(process) || !isWithin(n, 1, MOST_AHEAD)) {
            return NONE;
        }
        State s = runAhead(n);
        int all = s.sectorsDone();
        return all <= 0 ? NONE : s.procs[process].sectors * 100 / all;
    }

    public int when(int process, int k) {
        if (!isProcess(process) || !isWithin(k, 1, 40)) {
            return NONE;
        }
        State s = startAhead();
        Proc p = s.procs[process];
        for (int i = 1; i <= MOST_AHEAD; i++) {
            s.run(1);
            if (p.done >= k) {
                return i;
            }
        }
        return NONE;
    }

    public int late(int n, int process, int above) {
        if (!isProcess(process) || !isWithin(n, 0, MOST_AHEAD) || above < 0) {
            return NONE;
        }
        return runAboveAhead(n, above).procs[process].above;
    }

    public int alone(int n, int process) {
        if (!isProcess(process) || !isWithin(n, 0, MOST_AHEAD)) {
            return NONE;
        }
        State s = startAhead();
        for (int i = 0; i < plan.count; i++) {
            s.procs[i].on = i == process;
        }
        s.run(n);
        return s.procs[process].sectors;
    }

    public int idling(int n, int what) {
        if (plan.count == 0 || !isWithin(n, 1, 200) || !isWithin(what, 0, 1)) {
            return NONE;
        }
        int best = 0;
        int most = NONE;
        for (int i = 0; i <= MOST_IDLE; i++) {
            int done = sectorsByIdle(n, i);
            if (done > most) {
                most = done;
                best = i;
            }
        }
        return what == 0 ? best : most;
    }

    public int gain(int n, int what) {
        if (!hasDisk() || !isWithin(n, 1, 200) || !isWithin(what, 0, 1)) {
            return NONE;
        }
        return sectorsByIdle(n, what == 0 ? state.idle : 0);
    }

    public int apart(int n) {
        if (plan.count == 0 || !isWithin(n, 1, MOST_AHEAD)) {
            return NONE;
        }
        State s = runAhead(n);
        float greatest = s.sectorsByWeight(0);
        float least = greatest;
        for (int i = 1; i < plan.count; i++) {
            float each = s.sectorsByWeight(i);
            greatest = each > greatest ? each : greatest;
            least = each < least ? each : least;
        }
        return bitsOfFloat(greatest - least);
    }

    public int latest(int n, int above, int what) {
        if (!isWithin(n, 1, MOST_AHEAD) || above < 0 || !isWithin(what, 0, 1)
                || plan.count == 0) {
            return NONE;
        }
        State s = runAboveAhead(n, above);
        int found = NONE;
        int most = 0;
        for (int i = 0; i < plan.count; i++) {
            if (s.procs[i].above > most) {
                most = s.procs[i].above;
                found = i;
            }
        }
        if (found < 0) {
            return NONE;
        }
        return what == 0 ? found : most;
    }

    public int least(int n, int process, int sectors) {
        if (!isProcess(process) || !isWithin(n, 1, 100) || sectors < 1) {
            return NONE;
        }
        for (int weight = 1; weight <= MOST_WEIGHT; weight++) {
            State s = startAhead();
            s.procs[process].weight = weight;
            if (reaches(s, n, process, sectors)) {
                return weight;
            }
        }
        return NONE;
    }

    public int expiry(int k, int what) {
        if (!hasDisk() || !isWithin(k, 0, MOST_AHEAD) || !isWithin(what, 0, 3)) {
            return NONE;
        }
        State s = startAhead();
        for (int i = 1; i <= MOST_AHEAD; i++) {
            s.run(1);
            if (s.kept.total > k) {
                return what == 0 ? i : s.kept.tell(s.kept.told() - 1, what);
            }
        }
        return NONE;
    }

    public int worst(int n, int what) {
        if (!isWithin(n, 1, MOST_AHEAD) || !isWithin(what, 0, 1) || plan.count == 0) {
            return NONE;
        }
        State s = runAhead(n);
        int found = s.worstProcess();
        if (found < 0) {
            return NONE;
        }
        return what == 0 ? found : s.procs[found].greatest;
    }

    public int slicing(int n, int what) {
        if (plan.count == 0 || !isWithin(n, 1, 100) || !isWithin(what, 0, 1)) {
            return NONE;
        }
        int best = MOST_SLICE;
        int least = greatestBySlice(n, MOST_SLICE, ABOVE_ALL);
        for (int i = MOST_SLICE - 1; i >= 1 && least > 0; i--) {
            int greatest = greatestBySlice(n, i, least);
            if (greatest < least) {
                least = greatest;
                best = i;
            }
        }
        return what == 0 ? best : least;
    }

    public int lag(int queue) {
        if (!isProcess(queue)) {
            return NONE;
        }
        return bitsOfFloat(state.queues[queue].start - state.now);
    }

    // ---- what was seen

    public int see() {
        boolean taken = hasDisk() && seen.readRows(tape, plan.count);
        tape.length = 0;
        return taken ? seen.count : refuse(5);
    }

    public int fits() {
        return hasDisk() ? fitting() : NONE;
    }

    public int tells(int what) {
        if (!hasDisk() || !isWithin(what, 0, 1)) {
            return NONE;
        }
        int mask = fitting();
        if (mask == 0) {
            return NONE;
        }
        groupByTick(mask);
        int best = 0;
        int fewest = ABOVE_ALL;
        for (int t = 1; t <= MOST_SEEN_TICKS; t++) {
            int most = mostLeftAt(t);
            if (most < fewest) {
                fewest = most;
                best = t;
            }
        }
        return what == 0 ? best : fewest;
    }

    // ---- acts

    public int ticks(int n) {
        if (!hasDisk() || !isWithin(n, 1, 200) || state.tick + n > MOST_TICK) {
            return refuse(2);
        }
        keepPast();
        state.run(n);
        return state.tick;
    }

    public int ask(int process, int sector, int many) {
        if (!isProcess(process) || !state.canAskByHand(process, sector, many)) {
            return refuse(3);
        }
        keepPast();
        return state.send(process, sector, many, Requests.BY_HAND);
    }

    public boolean weight(int process, int weight) {
        if (!isProcess(process) || !isWithin(weight, 1, MOST_WEIGHT)
                || state.procs[process].weight == weight) {
            refuse(3);
            return false;
        }
        keepPast();
        state.procs[process].weight = weight;
        return true;
    }

    public boolean idle(int ticks) {
        if (!hasDisk() || !isWithin(ticks, 0, MOST_IDLE) || state.idle == ticks) {
            refuse(3);
            return false;
        }
        keepPast();
        state.idle = ticks;
        return true;
    }

    public boolean slice(int ticks) {
        if (!hasDisk() || !isWithin(ticks, 1, MOST_SLICE) || state.slice == ticks) {
            refuse(3);
            return false;
        }
        keepPast();
        state.slice = ticks;
        return true;
    }

    public boolean on(int process, boolean on) {
        if (!isProcess(process) || state.procs[process].on == on) {
            refuse(3);
            return false;
        }
        keepPast();
        state.procs[process].on = on;
        return true;
    }

    public int chance(int n) {
        if (plan.count == 0 || !isWithin(n, 1, 40) || state.tick + 7 * n > MOST_TICK) {
            return refuse(2);
        }
        keepPast();
        for (int i = 0; i < n; i++) {
            askByChance();
            state.run(draw(8));
        }
        return state.tick;
    }

    public boolean undo() {
        if (pastCount == 0) {
            refuse(4);
            return false;
        }
        restorePast();
        return true;
    }

    public boolean seed(int seed) {
        if (seed < 0) {
            refuse(5);
            return false;
        }
        drawn = seed;
        return true;
    }

    // ---- images, refusals

    public int image() {
        picture.write(state, plan.count);
        return picture.length;
    }

    public int octet(int k) {
        return k < 0 || k >= picture.length ? NONE : picture.bytes[k];
    }

    public boolean take() {
        boolean taken = hasDisk() && Image.isOne(tape, plan.count);
        if (taken) {
            state.begin(plan);
            Image.apply(tape, state, plan.count);
            pastCount = 0;
        } else {
            refuse(5);
        }
        tape.length = 0;
        return taken;
    }

    public int status(int what) {
        return isWithin(what, 0, 5) ? refusals[what] : NONE;
    }

    // ---- helpers of the face

    private int refuse(int kind) {
        refusals[kind]++;
        return NONE;
    }

    private boolean hasDisk() {
        return plan.sectors > 0;
    }

    private boolean isProcess(int number) {
        return number >= 0 && number < plan.count;
    }

    private static boolean isWithin(int x, int low, int high) {
        return x >= low && x <= high;
    }

    private void keepPast() {
        pastNewest = (pastNewest + 1) % MOST_UNDONE;
        past[pastNewest].copyAll(state);
        pastCount = Math.min(pastCount + 1, MOST_UNDONE);
    }

    private void restorePast() {
        state.copyAll(past[pastNewest]);
        pastNewest = (pastNewest + MOST_UNDONE - 1) % MOST_UNDONE;
        pastCount--;
    }

    private State startAhead() {
        scratch.copyForAhead(state);
        return scratch;
    }

    private State runAhead(int n) {
        State s = startAhead();
        s.run(n);
        return s;
    }

    private State runAboveAhead(int n, int above) {
        State s = startAhead();
        s.bound = above;
        s.run(n);
        return s;
    }

    private int sectorsByIdle(int n, int idleTicks) {
        State s = startAhead();
        s.idle = idleTicks;
        s.run(n);
        return s.sectorsDone();
    }

    private static boolean reaches(State s, int n, int process, int sectors) {
        Proc p = s.procs[process];
        for (int i = 0; i < n && p.sectors < sectors; i++) {
            s.run(1);
        }
        return p.sectors >= sectors;
    }

    /** Ends early at enough: what is not below the least one so far is not looked at further. */
    private int greatestBySlice(int n, int sliceTicks, int enough) {
        State s = startAhead();
        s.slice = sliceTicks;
        for (int i = 0; i < n && s.greatest < enough; i++) {
            s.run(1);
        }
        return s.greatest;
    }

    private int fitting() {
        int last = seen.lastTick();
        int mask = 0;
        for (int i = 0; i <= MOST_IDLE; i++) {
            State s = startAhead();
            s.idle = i;
            boolean fits = true;
            for (int t = 1; t <= last && fits; t++) {
                s.run(1);
                fits = seen.allows(t, kindOf(s.active));
            }
            mask |= fits ? 1 << i : 0;
        }
        return mask;
    }

    private static int kindOf(int active) {
        return isWithin(active, 0, MOST_PROCESSES - 1) ? active : NO_QUEUE;
    }

    private void groupByTick(int mask) {
        for (int i = 0; i < groups.length; i++) {
            groups[i] = 0;
        }
        for (int i = 0; i <= MOST_IDLE; i++) {
            if ((mask >> i & 1) == 1) {
                State s = startAhead();
                s.idle = i;
                for (int t = 1; t <= MOST_SEEN_TICKS; t++) {
                    s.run(1);
                    groups[t * ACTIVE_KINDS + kindOf(s.active)]++;
                }
            }
        }
    }

    private int mostLeftAt(int t) {
        int most = 0;
        for (int kind = 0; kind < ACTIVE_KINDS; kind++) {
            most = Math.max(most, groups[t * ACTIVE_KINDS + kind]);
        }
        return most;
    }

    private int draw(int m) {
        drawn = (1103515245L * drawn + 12345L) % 2147483648L;
        return m <= 0 ? 0 : (int) (drawn / 64L % m);
    }

    private void askByChance() {
        int process = draw(plan.count);
        int sector = draw(plan.sectors);
        int many = draw(16) + 1;
        if (state.canAskByHand(process, sector, many)) {
            state.send(process, sector, many, Requests.BY_HAND);
        }
    }

    /** The library's own way to the bits is not allowed here: sums and products find them. */
    private static int bitsOfFloat(float x) {
        return x < 0f ? 0x80000000 | bitsOfPositive(0f - x) : bitsOfPositive(x);
    }

    private static int bitsOfPositive(float x) {
        if (x == 0f) {
            return 0;
        }
        float scaled = x;
        int exponent = 127;
        while (scaled >= 2f && exponent < 254) {
            scaled = scaled / 2f;
            exponent++;
        }
        while (scaled < 1f && exponent > 1) {
            scaled = scaled * 2f;
            exponent--;
        }
        int digits = (int) (scaled * 8388608f);
        // Still below 1: the float is one of those without a leading one, whose exponent is 0.
        return scaled < 1f ? digits : (exponent << 23) + digits - 8388608;
    }

    /** Of a mean latency: it is 1 at least. */
    private static long bitsOfDouble(double x) {
        double scaled = x;
        long exponent = 1023L;
        while (scaled >= 2.0 && exponent < 2046L) {
            scaled = scaled / 2.0;
            exponent++;
        }
        long digits = (long) (scaled * 4503599627370496.0);
        return (exponent << 52) + digits - 4503599627370496L;
    }

    /** The words of the text that are no names. */
    private enum Word {
        DISK("disk", 0), SEEK("seek", 0), RATE("rate", 0), BUDGET("budget", 1), TO("to", 0),
        IDLE("idle", 2), SLICE("slice", 4), NEAR("near", 8), RAISE("raise", 16), FOR("for", 0),
        REST("rest", 0), WEIGHT("weight", 0), FROM("from", 0), DOES("does", 0),
        STREAM("stream", 0), AT("at", 0), ON("on", 0), TAKE("take", 0), THINK("think", 0),
        PROCESS("process", 0);

        private static final Word[] ALL = values();

        private final String text;
        /** A bit for each statement that may be told once alone. */
        private final int once;

        Word(String text, int once) {
            this.text = text;
            this.once = once;
        }

        boolean stands(Tape tape, int from, int length) {
            if (text.length() != length) {
                return false;
            }
            for (int i = 0; i < length; i++) {
                if (tape.byteAt(from + i) != text.charAt(i)) {
                    return false;
                }
            }
            return true;
        }

        /** Null where no own word stands. */
        static Word find(Tape tape, int from, int length) {
            for (int i = 0; i < ALL.length; i++) {
                if (ALL[i].stands(tape, from, length)) {
                    return ALL[i];
                }
            }
            return null;
        }
    }

    /** The bytes that were fed. */
    private static final class Tape {
        private final int[] bytes = new int[MOST_BYTES];
        private int length = 0;

        void addNumber(int number) {
            for (int shift = 24; shift >= 0; shift -= 8) {
                if (length < MOST_BYTES) {
                    bytes[length] = number >>> shift & 255;
                    length++;
                }
            }
        }

        /** NONE behind the last one. */
        int byteAt(int place) {
            return place < 0 || place >= length ? NONE : bytes[place];
        }

        boolean isLetter(int place) {
            int c = byteAt(place);
            return c >= 'a' && c <= 'z';
        }

        boolean isDigit(int place) {
            int c = byteAt(place);
            return c >= '0' && c <= '9';
        }

        boolean isBlank(int place) {
            int c = byteAt(place);
            return c == 10 || c == 32;
        }

        int letterCount(int from) {
            int n = 0;
            while (from + n < length && isLetter(from + n)) {
                n++;
            }
            return n;
        }

        int digitCount(int from) {
            int n = 0;
            while (from + n < length && isDigit(from + n)) {
                n++;
            }
            return n;
        }
    }

    /** What a disk's text tells. */
    private static final class Plan {
        private int sectors;
        private int seek;
        private int rate;
        private int least;
        private int most;
        private int idle;
        private int slice;
        private int near;
        private int raise;
        private int raisedFor;
        private int rest;
        private int count;
        private final int[] letters = new int[MOST_PROCESSES * MOST_LETTERS];
        private final boolean[] streams = new boolean[MOST_PROCESSES];
        private final int[] weights = new int[MOST_PROCESSES];
        private final int[] froms = new int[MOST_PROCESSES];
        private final int[] stepCounts = new int[MOST_PROCESSES];
        private final int[] stepAt = new int[MOST_PROCESSES * MOST_STEPS];
        private final int[] stepTake = new int[MOST_PROCESSES * MOST_STEPS];
        private final int[] stepThink = new int[MOST_PROCESSES * MOST_STEPS];

        void clear() {
            sectors = 0;
            least = 8;
            most = 64;
            idle = 4;
            slice = 40;
            near = 16;
            raise = 1;
            raisedFor = 0;
            rest = 999;
            count = 0;
            for (int i = 0; i < letters.length; i++) {
                letters[i] = 0;
            }
        }

        boolean hasName(int process) {
            for (int i = 0; i < process; i++) {
                if (hasLikeNames(i, process)) {
                    return true;
                }
            }
            return false;
        }

        private boolean hasLikeNames(int a, int b) {
            for (int k = 0; k < MOST_LETTERS; k++) {
                if (letters[a * MOST_LETTERS + k] != letters[b * MOST_LETTERS + k]) {
                    return false;
                }
            }
            return true;
        }
    }

    /** Reads a disk's text into a plan, up to its first fault. */
    private static final class Reader {
        private static final int END = 0;
        private static final int WORD = 1;
        private static final int NUMBER = 2;
        private static final int SIGN = 3;

        private final Tape tape;
        private final int[] kinds = new int[MOST_BYTES + 1];
        private final int[] starts = new int[MOST_BYTES + 1];
        private final int[] lengths = new int[MOST_BYTES + 1];
        /** Null where a token is no own word. */
        private final Word[] words = new Word[MOST_BYTES + 1];
        private Plan plan;
        private int at;
        private int toldOnce;
        private int fault;
        private int place;

        Reader(Tape tape, Plan plan) {
            this.tape = tape;
            this.plan = plan;
        }

        int readText(Plan into) {
            plan = into;
            at = 0;
            toldOnce = 0;
            fault = 0;
            place = NONE;
            splitText();
            readDisk();
            int statements = 1;
            while (fault == 0 && kinds[at] != END && statements < MOST_BYTES) {
                readStatement();
                statements++;
            }
            return statements;
        }

        // ---- tokens

        private void splitText() {
            int count = 0;
            int from = 0;
            while (from < tape.length && count < MOST_BYTES) {
                if (tape.isBlank(from)) {
                    from++;
                } else {
                    from += splitToken(count, from);
                    count++;
                }
            }
            kinds[count] = END;
            starts[count] = tape.length;
            words[count] = null;
        }

        /** How long the token is. */
        private int splitToken(int number, int from) {
            int length = 1;
            starts[number] = from;
            words[number] = null;
            kinds[number] = SIGN;
            if (tape.isLetter(from)) {
                length = tape.letterCount(from);
                if (!tape.isDigit(from - 1)) {
                    kinds[number] = WORD;
                    words[number] = Word.find(tape, from, length);
                }
            } else if (tape.isDigit(from)) {
                length = tape.digitCount(from);
                if (!tape.isLetter(from - 1)) {
                    kinds[number] = NUMBER;
                }
            }
            // A word and a number that touch: the second one stays a sign that nothing asks for.
            lengths[number] = length;
            return length;
        }

        // ---- statements

        private void readDisk() {
            expectWord(Word.DISK);
            plan.sectors = expectNumber(64, 9999);
            expectWord(Word.SEEK);
            plan.seek = expectNumber(1, 500);
            expectWord(Word.RATE);
            plan.rate = expectNumber(1, 64);
            expectSign(';');
        }

        private void readStatement() {
            Word word = words[at];
            if (word == null) {
                fail(1, starts[at]);
            } else if (word.once != 0) {
                readSetting(word);
            } else if (word == Word.PROCESS || word == Word.STREAM) {
                readProcess(word);
            } else {
                fail(1, starts[at]);
            }
            expectSign(';');
        }

        private void readSetting(Word word) {
            if ((toldOnce & word.once) != 0) {
                fail(5, starts[at]);
                return;
            }
            toldOnce |= word.once;
            expectWord(word);
            if (word == Word.BUDGET) {
                plan.least = expectNumber(1, 999);
                expectWord(Word.TO);
                plan.most = expectNumber(plan.least, 999);
            } else if (word == Word.IDLE) {
                plan.idle = expectNumber(0, MOST_IDLE);
            } else if (word == Word.SLICE) {
                plan.slice = expectNumber(1, MOST_SLICE);
            } else if (word == Word.NEAR) {
                plan.near = expectNumber(0, 999);
            } else {
                plan.raise = expectNumber(1, 20);
                expectWord(Word.FOR);
                plan.raisedFor = expectNumber(0, 500);
                expectWord(Word.REST);
                plan.rest = expectNumber(1, 999);
            }
        }

        private void readProcess(Word word) {
            int number = plan.count;
            if (number >= MOST_PROCESSES) {
                fail(5, starts[at]);
                return;
            }
            expectWord(word);
            expectName(number);
            plan.count = number + 1;
            plan.streams[number] = word == Word.STREAM;
            expectWord(Word.WEIGHT);
            plan.weights[number] = expectNumber(1, MOST_WEIGHT);
            expectWord(Word.FROM);
            plan.froms[number] = expectNumber(0, 999);
            expectWord(Word.DOES);
            int steps = 0;
            boolean more = true;
            while (fault == 0 && more && steps <= MOST_STEPS) {
                readStep(number, steps);
                steps++;
                more = isSign(',');
                at += more ? 1 : 0;
            }
            plan.stepCounts[number] = steps;
        }

        private void readStep(int process, int number) {
            Word word = words[at];
            if (word != Word.AT && word != Word.ON) {
                fail(1, starts[at]);
                return;
            }
            if (number >= MOST_STEPS) {
                fail(5, starts[at]);
                return;
            }
            if (word == Word.AT && plan.streams[process]) {
                fail(6, starts[at]);
                return;
            }
            int row = process * MOST_STEPS + number;
            int first = NONE;
            int most = MOST_TAKE;
            expectWord(word);
            if (word == Word.AT) {
                first = expectNumber(0, plan.sectors - 1);
                most = Math.min(MOST_TAKE, plan.sectors - first);
            }
            plan.stepAt[row] = first;
            expectWord(Word.TAKE);
            plan.stepTake[row] = expectNumber(1, most);
            expectWord(Word.THINK);
            plan.stepThink[row] = expectNumber(0, 200);
        }

        // ---- what is asked at a place; behind a fault nothing moves

        /** The first fault stays. */
        private void fail(int kind, int where) {
            if (fault == 0) {
                fault = kind;
                place = where;
            }
        }

        private boolean isSign(int sign) {
            return kinds[at] == SIGN && tape.byteAt(starts[at]) == sign;
        }

        private void expectSign(int sign) {
            if (fault != 0) {
                return;
            }
            if (isSign(sign)) {
                at++;
            } else {
                fail(1, starts[at]);
            }
        }

        private void expectWord(Word word) {
            if (fault != 0) {
                return;
            }
            if (words[at] == word) {
                at++;
            } else {
                fail(1, starts[at]);
            }
        }

        private int expectNumber(int low, int high) {
            if (fault != 0) {
                return low;
            }
            int from = starts[at];
            if (kinds[at] != NUMBER) {
                fail(1, from);
                return low;
            }
            if (lengths[at] > MOST_DIGITS) {
                fail(1, from + MOST_DIGITS);
                return low;
            }
            int value = 0;
            for (int i = 0; i < lengths[at]; i++) {
                value = value * 10 + tape.byteAt(from + i) - '0';
            }
            if (value < low || value > high) {
                fail(2, from);
            }
            at++;
            return value;
        }

        private void expectName(int process) {
            if (fault != 0) {
                return;
            }
            int from = starts[at];
            if (kinds[at] != WORD || words[at] != null) {
                fail(1, from);
                return;
            }
            if (lengths[at] > MOST_LETTERS) {
                fail(1, from + MOST_LETTERS);
                return;
            }
            for (int k = 0; k < lengths[at]; k++) {
                plan.letters[process * MOST_LETTERS + k] = tape.byteAt(from + k) - 'a' + 1;
            }
            if (plan.hasName(process)) {
                fail(3, from);
            }
            at++;
        }
    }

    /** How one process stands. */
    private static final class Proc {
        private int weight;
        private boolean on;
        private int thinks;
        private boolean waits;
        private int place;
        private int step;
        private int out;
        private int target;
        private int misses;
        private int done;
        private int sectors;
        private int latencies;
        private int greatest;
        private int above;

        void begin(int number, int itsWeight, int from) {
            weight = itsWeight;
            on = true;
            thinks = from;
            waits = false;
            place = 0;
            step = 0;
            out = 0;
            target = number;
            misses = 0;
            clearCounts();
        }

        void clearCounts() {
            done = 0;
            sectors = 0;
            latencies = 0;
            greatest = 0;
            above = 0;
        }

        void copyStanding(Proc other) {
            weight = other.weight;
            on = other.on;
            thinks = other.thinks;
            waits = other.waits;
            place = other.place;
            step = other.step;
            out = other.out;
            target = other.target;
            misses = other.misses;
        }

        void copyCounts(Proc other) {
            done = other.done;
            sectors = other.sectors;
            latencies = other.latencies;
            greatest = other.greatest;
            above = other.above;
        }

        void count(int many, int latency, int bound) {
            out--;
            done++;
            sectors += many;
            latencies += latency;
            greatest = Math.max(greatest, latency);
            if (latency > bound) {
                above++;
            }
        }
    }

    /** How one queue stands; its requests lie in the state's one list. */
    private static final class Queue {
        private static final int JUMPS_MASK = 255;
        private static final int SEEKY_FROM = 5;

        private float start;
        private float finish;
        private float mean;
        private int budget;
        private int end;
        private int jumps;
        private int latest;
        private int raised;
        private int lying;

        void begin(int firstBudget) {
            start = 0f;
            finish = 0f;
            mean = 0f;
            budget = firstBudget;
            end = 0;
            jumps = 0;
            latest = 0;
            raised = 0;
            lying = 0;
        }

        void copy(Queue other) {
            start = other.start;
            finish = other.finish;
            mean = other.mean;
            budget = other.budget;
            end = other.end;
            jumps = other.jumps;
            latest = other.latest;
            raised = other.raised;
            lying = other.lying;
        }

        int farJumps() {
            return Integer.bitCount(jumps);
        }

        boolean isSeeky() {
            return farJumps() >= SEEKY_FROM;
        }

        boolean isFar(int sector, int near) {
            return sector - end > near || end - sector > near;
        }

        void reachTo(int first, int many, int near) {
            int far = isFar(first, near) ? 1 : 0;
            jumps = (jumps << 1 | far) & JUMPS_MASK;
            end = first + many;
        }

        void learnPause(int tick) {
            mean = mean * 0.875f + (float) (tick - latest) * 0.125f;
        }
    }

    /** The requests that lie in all queues, as they came: rows of numbers. */
    private static final class Requests {
        private static final int BY_HAND = -1;
        private static final int FIRST = 0;
        private static final int MANY = 1;
        private static final int ASKER = 2;
        private static final int ASKED = 3;
        private static final int THINK = 4;
        private static final int QUEUE = 5;
        private static final int WIDTH = 6;
        /** Eight by hand, and one more by a step, of each process. */
        private static final int MOST = 9 * MOST_PROCESSES;

        private final int[] cells = new int[MOST * WIDTH];
        private int count = 0;

        void copy(Requests other) {
            count = other.count;
            System.arraycopy(other.cells, 0, cells, 0, count * WIDTH);
        }

        boolean isFull() {
            return count >= MOST;
        }

        /** Where a new row begins. */
        int addRow() {
            int row = count * WIDTH;
            count++;
            return row;
        }

        void moveOut(int row, int[] to) {
            System.arraycopy(cells, row, to, 0, WIDTH);
            int behind = row + WIDTH;
            System.arraycopy(cells, behind, cells, row, count * WIDTH - behind);
            count--;
        }

        /** Where the k-th row of a queue begins. */
        int placeOf(int queue, int k) {
            int before = 0;
            for (int row = 0; row < count * WIDTH; row += WIDTH) {
                if (cells[row + QUEUE] == queue) {
                    if (before == k) {
                        return row;
                    }
                    before++;
                }
            }
            return NONE;
        }

        /** How many of the same queue came before this row. */
        int rankOf(int place) {
            int before = 0;
            for (int row = 0; row < place; row += WIDTH) {
                if (cells[row + QUEUE] == cells[place + QUEUE]) {
                    before++;
                }
            }
            return before;
        }

        /** The row that the arm meets first on its way up, else the lowest one. */
        int nextOf(int queue, int head) {
            int upward = NONE;
            int lowest = NONE;
            for (int row = 0; row < count * WIDTH; row += WIDTH) {
                if (cells[row + QUEUE] == queue) {
                    int first = cells[row + FIRST];
                    if (lowest < 0 || first < cells[lowest + FIRST]) {
                        lowest = row;
                    }
                    if (first >= head && (upward < 0 || first < cells[upward + FIRST])) {
                        upward = row;
                    }
                }
            }
            return upward < 0 ? lowest : upward;
        }

        static int tell(int[] from, int row, int what) {
            switch (what) {
                case 0: return from[row + FIRST];
                case 1: return from[row + MANY];
                case 2: return from[row + ASKER];
                case 3: return from[row + ASKED];
                case 4: return from[row + THINK] == BY_HAND ? 1 : 0;
                default: return NONE;
            }
        }
    }

    /** What expired, the last forty told. */
    private static final class Kept {
        private static final int MOST = 40;
        private static final int WIDTH = 4;

        private final int[] cells = new int[MOST * WIDTH];
        private int total = 0;

        void copy(Kept other) {
            total = other.total;
            System.arraycopy(other.cells, 0, cells, 0, cells.length);
        }

        int told() {
            return Math.min(total, MOST);
        }

        void add(int tick, int queue, int how, int served) {
            int row = total % MOST * WIDTH;
            cells[row] = tick;
            cells[row + 1] = queue;
            cells[row + 2] = how;
            cells[row + 3] = served;
            total++;
        }

        int tell(int k, int what) {
            if (what < 0 || what >= WIDTH) {
                return NONE;
            }
            int number = total - told() + k;
            return number < 0 ? NONE : cells[number % MOST * WIDTH + what];
        }
    }

    /** All that a tick changes. */
    private static final class State {
        private static final int BUDGET_SPENT = 0;
        private static final int SLICE_OVER = 1;
        private static final int NOTHING_CAME = 2;
        private static final int STREAM_OUT = 4;
        private static final int HAND_OUT = 8;
        private static final int MOST_MISSES = 3;

        private Plan plan;
        private final Proc[] procs = new Proc[MOST_PROCESSES];
        private final Queue[] queues = new Queue[MOST_PROCESSES];
        private final Requests requests = new Requests();
        private final int[] busy = new int[Requests.WIDTH];
        private final Kept kept = new Kept();
        private int left = 0;
        private int head = 0;
        private float now = 0f;
        private float rate = 0f;
        private int tick = 0;
        private int active = NONE;
        private int began = 0;
        private int served = 0;
        private int until = 0;
        private int top = 0;
        private int idle = 0;
        private int slice = 0;
        private int greatest = 0;
        private int bound = 0;

        State(Plan plan) {
            this.plan = plan;
            for (int i = 0; i < MOST_PROCESSES; i++) {
                procs[i] = new Proc();
                queues[i] = new Queue();
            }
        }

        void begin(Plan ofDisk) {
            plan = ofDisk;
            for (int i = 0; i < MOST_PROCESSES; i++) {
                procs[i].begin(i, plan.weights[i], plan.froms[i]);
                queues[i].begin((plan.least + plan.most) / 2);
            }
            requests.count = 0;
            kept.total = 0;
            left = 0;
            head = 0;
            now = 0f;
            rate = (float) plan.rate;
            tick = 0;
            active = NONE;
            began = 0;
            served = 0;
            until = 0;
            top = plan.most;
            idle = plan.idle;
            slice = plan.slice;
            greatest = 0;
            bound = 0;
        }

        void copyAll(State other) {
            copyMoving(other);
            kept.copy(other.kept);
            greatest = other.greatest;
            for (int i = 0; i < plan.count; i++) {
                procs[i].copyCounts(other.procs[i]);
            }
        }

        /** What is counted begins anew. */
        void copyForAhead(State other) {
            copyMoving(other);
            kept.total = 0;
            greatest = 0;
            for (int i = 0; i < plan.count; i++) {
                procs[i].clearCounts();
            }
        }

        private void copyMoving(State other) {
            plan = other.plan;
            for (int i = 0; i < plan.count; i++) {
                procs[i].copyStanding(other.procs[i]);
                queues[i].copy(other.queues[i]);
            }
            requests.copy(other.requests);
            System.arraycopy(other.busy, 0, busy, 0, busy.length);
            left = other.left;
            head = other.head;
            now = other.now;
            rate = other.rate;
            tick = other.tick;
            active = other.active;
            began = other.began;
            served = other.served;
            until = other.until;
            top = other.top;
            idle = other.idle;
            slice = other.slice;
            bound = other.bound;
        }

        // ---- what is asked of it

        boolean isWaiting() {
            return active >= 0 && left == 0 && queues[active].lying == 0;
        }

        boolean isBacklogged(int queue) {
            return queue != active && queues[queue].lying > 0;
        }

        int weightOf(int queue) {
            int weight = procs[queue].weight;
            return tick < queues[queue].raised ? weight * plan.raise : weight;
        }

        int sectorsDone() {
            int all = 0;
            for (int i = 0; i < plan.count; i++) {
                all += procs[i].sectors;
            }
            return all;
        }

        float sectorsByWeight(int process) {
            int weight = procs[process].weight;
            return weight < 1 ? 0f : (float) procs[process].sectors / (float) weight;
        }

        int worstProcess() {
            int found = NONE;
            for (int i = 0; i < plan.count; i++) {
                if (procs[i].done > 0 && (found < 0 || procs[i].greatest > procs[found].greatest)) {
                    found = i;
                }
            }
            return found;
        }

        boolean canAskByHand(int process, int sector, int many) {
            return procs[process].out < HAND_OUT && many >= 1 && many <= MOST_TAKE
                    && sector >= 0 && sector <= plan.sectors - many;
        }

        // ---- a tick

        void run(int ticks) {
            for (int t = 0; t < ticks; t++) {
                if (left > 0) {
                    left--;
                    if (left == 0) {
                        complete();
                    }
                }
                for (int i = 0; i < plan.count; i++) {
                    Proc p = procs[i];
                    if (p.on && !p.waits) {
                        if (p.thinks > 0) {
                            p.thinks--;
                        } else {
                            askByStep(i, p);
                        }
                    }
                }
                if (left == 0) {
                    choose();
                }
                tick++;
            }
        }

        private void complete() {
            if (active < 0) {
                return;
            }
            Queue queue = queues[active];
            int many = busy[Requests.MANY];
            head = busy[Requests.FIRST] + many;
            served += many;
            int weights = weightsTogether();
            if (weights > 0) {
                now = now + (float) many / (float) weights;
            }
            queue.latest = tick;
            countDone(many);
            if (queue.lying == 0) {
                until = tick + (isWorthIdling(queue) ? idle : 0);
            }
        }

        private void countDone(int many) {
            int asker = busy[Requests.ASKER];
            int latency = tick - busy[Requests.ASKED];
            Proc p = procs[asker];
            p.count(many, latency, bound);
            greatest = Math.max(greatest, latency);
            if (busy[Requests.THINK] != Requests.BY_HAND && !plan.streams[asker]) {
                p.waits = false;
                p.thinks = busy[Requests.THINK];
            }
        }

        private int weightsTogether() {
            int all = 0;
            for (int i = 0; i < plan.count; i++) {
                if (i == active || queues[i].lying > 0) {
                    all += weightOf(i);
                }
            }
            return all;
        }

        private boolean isWorthIdling(Queue queue) {
            return !plan.streams[active] && !queue.isSeeky() && queue.mean <= (float) idle;
        }

        // ---- asking

        private void askByStep(int process, Proc p) {
            boolean stream = plan.streams[process];
            int steps = plan.stepCounts[process];
            if (steps < 1 || stream && p.out >= STREAM_OUT) {
                return;
            }
            int row = process * MOST_STEPS + p.step;
            int many = plan.stepTake[row];
            int think = plan.stepThink[row];
            int first = plan.stepAt[row];
            if (first < 0) {
                first = p.place + many > plan.sectors ? 0 : p.place;
            }
            p.step = p.step + 1 < steps ? p.step + 1 : 0;
            if (stream) {
                p.thinks = think;
            } else {
                p.waits = true;
            }
            send(process, first, many, think);
        }

        /** To which queue it goes. */
        int send(int process, int first, int many, int think) {
            Proc p = procs[process];
            p.place = first + many;
            route(process, first);
            int number = p.target;
            Queue queue = queues[number];
            queue.reachTo(first, many, plan.near);
            boolean isActive = number == active;
            boolean isOut = queue.lying > 0 || isActive && left > 0;
            if (!isOut && !plan.streams[number] && queue.latest != 0) {
                queue.learnPause(tick);
            }
            if (!isActive && queue.lying == 0) {
                wake(number, queue);
            }
            if (!requests.isFull()) {
                int row = requests.addRow();
                requests.cells[row + Requests.FIRST] = first;
                requests.cells[row + Requests.MANY] = many;
                requests.cells[row + Requests.ASKER] = process;
                requests.cells[row + Requests.ASKED] = tick;
                requests.cells[row + Requests.THINK] = think;
                requests.cells[row + Requests.QUEUE] = number;
                queue.lying++;
                p.out++;
            }
            return number;
        }

        private void route(int process, int first) {
            Proc p = procs[process];
            if (p.target == process) {
                if (mayMerge(process) && !queues[active].isFar(first, plan.near)) {
                    p.target = active;
                    p.misses = 0;
                }
            } else if (queues[p.target].isFar(first, plan.near)) {
                p.misses++;
                if (p.misses >= MOST_MISSES) {
                    p.target = process;
                    p.misses = 0;
                }
            } else {
                p.misses = 0;
            }
        }

        private boolean mayMerge(int process) {
            return active >= 0 && active != process
                    && !plan.streams[process] && !plan.streams[active];
        }

        private void wake(int number, Queue queue) {
            if (tick - queue.latest >= plan.rest) {
                queue.raised = tick + plan.raisedFor;
            }
            queue.start = now > queue.finish ? now : queue.finish;
            queue.finish = after(queue.start, queue.budget, number);
        }

        private float after(float from, int sectors, int queue) {
            int weight = weightOf(queue);
            return weight < 1 ? from : from + (float) sectors / (float) weight;
        }

        // ---- choosing

        private void choose() {
            if (active >= 0) {
                Queue queue = queues[active];
                int row = requests.nextOf(active, head);
                if (row >= 0) {
                    if (served != 0 && served + requests.cells[row + Requests.MANY] > queue.budget) {
                        expire(queue, BUDGET_SPENT);
                    } else if (tick - began >= slice) {
                        expire(queue, SLICE_OVER);
                    } else {
                        go(row);
                        return;
                    }
                } else if (tick < until) {
                    return;
                } else {
                    expire(queue, NOTHING_CAME);
                }
            }
            activate();
        }

        private void activate() {
            if (requests.count == 0) {
                return;
            }
            float least = leastStart();
            now = least > now ? least : now;
            int best = NONE;
            for (int i = 0; i < plan.count; i++) {
                if (queues[i].lying > 0 && queues[i].start <= now
                        && (best < 0 || queues[i].finish < queues[best].finish)) {
                    best = i;
                }
            }
            if (best >= 0) {
                active = best;
                began = tick;
                served = 0;
                go(requests.nextOf(best, head));
            }
        }

        private float leastStart() {
            float least = 0f;
            boolean found = false;
            for (int i = 0; i < plan.count; i++) {
                if (queues[i].lying > 0 && (!found || queues[i].start < least)) {
                    least = queues[i].start;
                    found = true;
                }
            }
            return least;
        }

        private void go(int row) {
            if (row < 0 || row + Requests.WIDTH > requests.count * Requests.WIDTH) {
                return;
            }
            requests.moveOut(row, busy);
            queues[active].lying--;
            int way = Math.abs(busy[Requests.FIRST] - head);
            left = roundedUp(way, plan.seek) + roundedUp(busy[Requests.MANY], plan.rate);
        }

        private static int roundedUp(int x, int by) {
            return by < 1 ? x : (x + by - 1) / by;
        }

        private void expire(Queue queue, int how) {
            int time = tick - began;
            if (time > 0) {
                rate = rate * 0.875f + (float) served / (float) time * 0.125f;
            }
            top = within((int) (rate * (float) slice), plan.least, plan.most);
            queue.budget = within(wanted(queue.budget, how), plan.least, top);
            queue.start = after(queue.start, served, active);
            queue.finish = queue.lying > 0
                    ? after(queue.start, queue.budget, active) : queue.start;
            kept.add(tick, active, how, served);
            active = NONE;
        }

        private int wanted(int budget, int how) {
            switch (how) {
                case BUDGET_SPENT: return budget * 2;
                case SLICE_OVER: return served;
                default: return Math.max(budget / 2, served);
            }
        }

        private static int within(int x, int low, int high) {
            return Math.min(Math.max(x, low), high);
        }
    }

    /** Which queue was seen to be active, and when. */
    private static final class Seen {
        private static final int MOST = 16;

        private final int[] ticks = new int[MOST];
        private final int[] kinds = new int[MOST];
        private int count = 0;

        boolean readRows(Tape tape, int queues) {
            if (!areRows(tape, queues)) {
                return false;
            }
            count = tape.length / 2;
            for (int i = 0; i < count; i++) {
                ticks[i] = tape.byteAt(2 * i);
                kinds[i] = tape.byteAt(2 * i + 1);
            }
            return true;
        }

        private static boolean areRows(Tape tape, int queues) {
            if (tape.length < 2 || tape.length > 2 * MOST || tape.length % 2 != 0) {
                return false;
            }
            for (int i = 0; i < tape.length; i += 2) {
                int tick = tape.byteAt(i);
                int kind = tape.byteAt(i + 1);
                if (tick < 1 || tick > MOST_SEEN_TICKS || kind >= queues && kind != NO_QUEUE) {
                    return false;
                }
            }
            return true;
        }

        int lastTick() {
            int last = 0;
            for (int i = 0; i < count; i++) {
                last = Math.max(last, ticks[i]);
            }
            return last;
        }

        boolean allows(int tick, int kind) {
            for (int i = 0; i < count; i++) {
                if (ticks[i] == tick && kinds[i] != kind) {
                    return false;
                }
            }
            return true;
        }
    }

    /** What is told of a disk in a few bytes, with one to check them. */
    private static final class Image {
        private static final int SMALLEST = 3;

        private final int[] bytes = new int[SMALLEST + 2 * MOST_PROCESSES];
        private int length = 0;

        void write(State state, int count) {
            bytes[0] = state.idle;
            bytes[1] = state.slice;
            for (int i = 0; i < count; i++) {
                bytes[2 + 2 * i] = state.procs[i].weight;
                bytes[3 + 2 * i] = state.procs[i].on ? 1 : 0;
            }
            length = SMALLEST + 2 * count;
            int check = 163;
            for (int i = 0; i < length - 1; i++) {
                check = (3 * check + bytes[i]) % 251;
            }
            bytes[length - 1] = check;
        }

        static boolean isOne(Tape tape, int count) {
            if (tape.length != SMALLEST + 2 * count) {
                return false;
            }
            int check = 163;
            for (int i = 0; i < tape.length - 1; i++) {
                check = (3 * check + tape.byteAt(i)) % 251;
            }
            return check == tape.byteAt(tape.length - 1) && areSettings(tape, count);
        }

        private static boolean areSettings(Tape tape, int count) {
            if (!isWithin(tape.byteAt(0), 0, MOST_IDLE) || !isWithin(tape.byteAt(1), 1, MOST_SLICE)) {
                return false;
            }
            for (int i = 0; i < count; i++) {
                if (!isWithin(tape.byteAt(2 + 2 * i), 1, MOST_WEIGHT)
                        || !isWithin(tape.byteAt(3 + 2 * i), 0, 1)) {
                    return false;
                }
            }
            return true;
        }

        static void apply(Tape tape, State state, int count) {
            state.idle = tape.byteAt(0);
            state.slice = tape.byteAt(1);
            for (int i = 0; i < count; i++) {
                state.procs[i].weight = tape.byteAt(2 + 2 * i);
                state.procs[i].on = tape.byteAt(3 + 2 * i) == 1;
            }
        }
    }
}
