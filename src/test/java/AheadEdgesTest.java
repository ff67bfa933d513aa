import java.util.function.IntToLongFunction;

/** The edges of III and of promises 15 to 31: what is ahead, and what was seen. */
public final class AheadEdgesTest {
    private static final Checks C = new Checks();
    private static final int LEAST = Integer.MIN_VALUE;
    private static final int MOST = Integer.MAX_VALUE;
    private static final String REST = " from 999 does on take 1 think 0;";
    private static final String ONE = "disk 64 seek 64 rate 1;process a weight 3 from 0 does on take 2 think 3;process b weight 1" + REST;

    public static void main(String[] args) {
        nothingChanges();
        beyond9999();
        ticksOfEachCall();
        inTheLastTick();
        whatOfEachCall();
        noneSuch();
        withoutADisk();
        withoutProcesses();
        withSixProcesses();
        laterOfTheseTicksAlone();
        laterOfMany();
        shareCut();
        shareOfNone();
        whenTheKth();
        whenIn400();
        lateAbove();
        aloneIfItIsOn();
        aloneWithWhatLies();
        idlingTheLeast();
        idlingMost();
        idlingUpTo20();
        idlingToldNow();
        gainByBoth();
        apartOfOne();
        apartGreatestLessLeast();
        apartByTheLeastWeight();
        latestTheFirst();
        latestOfNone();
        leastFromOneOn();
        leastUpTo100();
        expiryKth();
        expiryIn400();
        worstTheFirst();
        worstOfNone();
        slicingTheGreatest();
        slicingLeast();
        slicingOfOneAndOf199();
        slicingByWhichNoneIsDone();
        slicingNeitherBy0NorBy201();
        slicingWithout();
        lagBothWays();
        seeRows();
        seeTicksAndQueues();
        seeRefusedStays();
        seeTakesThePlaceOfFormer();
        fitsOfNothingSeen();
        fitsAllRows();
        fitsOfSixteenRows();
        fitsAreAhead();
        fitsToldNow();
        tellsTheFirst();
        tellsUpTo60();
        tellsOfOne();
        tellsWithoutAny();
        C.close();
    }

    // ---- all of them

    /** "AHEAD are TICKS with nothing else done": and no call of these changes anything. */
    private static void nothingChanges() {
        DiskBudgets x = Checks.disk(ONE);
        DiskBudgets y = Checks.disk(ONE);
        for (DiskBudgets each : new DiskBudgets[] {x, y}) {
            each.ticks(7);
            each.ask(1, 30, 9);
            Checks.put(each, 3, 0);
            each.see();
        }
        x.later(400, 0, 0);
        x.share(400, 0);
        x.when(0, 40);
        x.late(400, 0, 0);
        x.alone(400, 1);
        x.idling(200, 0);
        x.gain(200, 1);
        x.apart(400);
        x.latest(400, 0, 0);
        x.least(100, 1, 9);
        x.expiry(99, 0);
        x.worst(400, 0);
        x.slicing(100, 0);
        x.lag(0);
        x.fits();
        x.tells(0);
        for (int k = 0; k < 6; k++) C.same("status " + k, x.status(k), 0);
        Standing.same(C, "nothing changes", x, y);
        x.later(401, 0, 0);
        x.later(1, 9, 0);
        x.share(0, 0);
        x.when(0, 0);
        x.late(1, 0, -1);
        x.idling(0, 0);
        x.slicing(101, 0);
        x.tells(2);
        for (int k = 0; k < 6; k++) C.same("NONE is not counted as refused: status " + k, x.status(k), 0);
    }

    /** "(beyond 9999, too)" */
    private static void beyond9999() {
        String text = "disk 64 seek 64 rate 64;idle 0;process a weight 1 from 0 does at 5 take 1 think 2;";
        DiskBudgets x = Checks.disk(text);
        DiskBudgets y = Checks.disk(text);
        Checks.go(x, 9999);
        Checks.go(y, 9999 - 420);
        C.same("the tick", x.has(2), 9999);
        // It asks each fourth tick: 420 ticks earlier all is the same.
        for (int w = 0; w < 4; w++) C.same("later " + w, x.later(400, 0, w), y.later(400, 0, w));
        C.same("share", x.share(400, 0), y.share(400, 0));
        C.same("when", x.when(0, 40), y.when(0, 40));
        C.same("late", x.late(400, 0, 1), y.late(400, 0, 1));
        C.same("alone", x.alone(400, 0), y.alone(400, 0));
        C.same("some are done", x.later(400, 0, 0), 100);
        C.same("the greatest latency is a short one", x.worst(400, 1) < 20, true);
        for (int w = 0; w < 4; w++) C.same("expiry " + w, x.expiry(60, w), y.expiry(60, w));
        C.same("idling", x.idling(200, 1), y.idling(200, 1));
        C.same("gain", x.gain(200, 0), y.gain(200, 0));
        C.same("slicing", x.slicing(100, 1), y.slicing(100, 1));
        C.same("the tick stays", x.has(2), 9999);
        // With a waiting that lasts till behind 9999.
        DiskBudgets z = Checks.disk("disk 64 seek 64 rate 1;idle 20;" + "process a weight 1" + REST);
        z.on(0, false);
        Checks.go(z, 9990);
        z.ask(0, 0, 1);
        z.ticks(9);
        C.same("until", z.has(7), 10011);
        C.same("expires behind", z.expiry(0, 0), 13);
        Checks.put(z, 12, 0, 13, 6);
        z.see();
        C.same("as it is", z.fits(), (1 << 21) - 1);
    }

    // ---- how many ticks

    /** A number of ticks from low to high, both sides of both: NONE outside, no NONE inside. */
    private static void ticksRange(String what, int low, int high, IntToLongFunction call) {
        for (int n : new int[] {low, low + 1, high - 1, high}) C.same(what + " " + n + " is told", call.applyAsLong(n) != -1, true);
        for (int n : new int[] {low - 1, high + 1, -1, LEAST, MOST}) C.same(what + " " + n, call.applyAsLong(n), -1);
    }

    /** One is done in the next tick: so each has something to tell from 1 on. */
    private static void ticksOfEachCall() {
        DiskBudgets x = Checks.disk("disk 64 seek 64 rate 1;process a weight 3 from 0 does on take 1 think 3;process b weight 1" + REST);
        x.ticks(1);
        C.same("done in the next", x.has(5), 1);
        ticksRange("later", 0, 400, n -> x.later(n, 0, 0));
        ticksRange("share", 1, 400, n -> x.share(n, 0));
        ticksRange("when", 1, 40, n -> x.when(0, n));
        ticksRange("late", 0, 400, n -> x.late(n, 0, 0));
        ticksRange("alone", 0, 400, n -> x.alone(n, 0));
        for (int what = 0; what < 2; what++) {
            int w = what;
            ticksRange("idling", 1, 200, n -> x.idling(n, w));
            ticksRange("gain", 1, 200, n -> x.gain(n, w));
            ticksRange("latest", 1, 400, n -> x.latest(n, 0, w));
            ticksRange("worst", 1, 400, n -> x.worst(n, w));
            ticksRange("slicing", 1, 100, n -> x.slicing(n, w));
        }
        ticksRange("apart", 1, 400, n -> x.apart(n));
        ticksRange("least", 1, 100, n -> x.least(n, 0, 1));
        C.same("later in none", x.later(0, 0, 0), 0);
        C.same("late in none", x.late(0, 0, 0), 0);
        C.same("alone in none", x.alone(0, 0), 0);
    }

    /** What is done in the last of the ticks counts, what is done in the one behind does not. */
    private static void inTheLastTick() {
        for (int[] s : new int[][] {{400, 398}, {200, 198}, {100, 98}, {1, -1}}) {
            int n = s[0];
            DiskBudgets x = Checks.disk("disk 64 seek 64 rate 1;process a weight 2 from " + Math.max(0, s[1]) + " does on take 1 think 9;");
            if (s[1] < 0) x.ticks(1);
            C.same("later " + n, x.later(n, 0, 0), 1);
            C.same("later " + (n - 1), x.later(n - 1, 0, 0), 0);
            C.same("share " + n, x.share(n, 0), 100);
            C.same("share " + (n - 1), x.share(n - 1, 0), -1);
            C.same("when", x.when(0, 1), n);
            C.same("late " + n, x.late(n, 0, 0), 1);
            C.same("late " + (n - 1), x.late(n - 1, 0, 0), 0);
            C.same("alone " + n, x.alone(n, 0), 1);
            C.same("alone " + (n - 1), x.alone(n - 1, 0), 0);
            C.same("apart " + n, x.apart(n), 0);
            C.same("latest " + n, x.latest(n, 0, 1), 1);
            C.same("latest " + (n - 1), x.latest(n - 1, 0, 1), -1);
            C.same("worst " + n, x.worst(n, 1), 1);
            C.same("worst " + (n - 1), x.worst(n - 1, 1), -1);
            if (n <= 200) {
                C.same("idling " + n, x.idling(n, 1), 1);
                C.same("idling " + (n - 1), x.idling(n - 1, 1), n == 1 ? -1 : 0);
                C.same("gain " + n, x.gain(n, 0), 1);
                C.same("gain by 0 " + n, x.gain(n, 1), 1);
                C.same("gain " + (n - 1), x.gain(n - 1, 0), n == 1 ? -1 : 0);
            }
            if (n <= 100) {
                C.same("least " + n, x.least(n, 0, 1), 1);
                C.same("least " + (n - 1), x.least(n - 1, 0, 1), -1);
                C.same("slicing " + n, x.slicing(n, 1), 1);
                C.same("slicing " + (n - 1), x.slicing(n - 1, 1), n == 1 ? -1 : 0);
            }
        }
    }

    // ---- which what, which process, without

    /** "NONE .. for others" */
    private static void whatOfEachCall() {
        DiskBudgets x = Checks.disk("disk 64 seek 64 rate 1;idle 0;process a weight 3 from 0 does on take 1 think 3;");
        for (int w : new int[] {-1, LEAST, MOST, 0, 1, 2, 3, 4}) {
            boolean two = w == 0 || w == 1;
            boolean four = w >= 0 && w <= 3;
            C.same("later what " + w, x.later(50, 0, w) >= 0, four);
            C.same("idling what " + w, x.idling(50, w) >= 0, two);
            C.same("gain what " + w, x.gain(50, w) >= 0, two);
            C.same("latest what " + w, x.latest(50, 0, w) >= 0, two);
            C.same("expiry what " + w, x.expiry(0, w) >= 0, four);
            C.same("worst what " + w, x.worst(50, w) >= 0, two);
            C.same("slicing what " + w, x.slicing(50, w) >= 0, two);
            C.same("tells what " + w, x.tells(w) >= 0, two);
        }
    }

    /** "NONE when .. there is none such" */
    private static void noneSuch() {
        DiskBudgets x = Checks.disk("disk 64 seek 64 rate 1;process a weight 3 from 0 does on take 1 think 3;process b weight 1 from 0 does on take 1 think 0;");
        for (int p : new int[] {-1, 2, 5, 6, LEAST, MOST, 0, 1}) {
            boolean is = p == 0 || p == 1;
            C.same("later of " + p, x.later(50, p, 0) >= 0, is);
            C.same("share of " + p, x.share(50, p) >= 0, is);
            C.same("when of " + p, x.when(p, 1) >= 0, is);
            C.same("late of " + p, x.late(50, p, 0) >= 0, is);
            C.same("alone of " + p, x.alone(50, p) >= 0, is);
            C.same("least of " + p, x.least(50, p, 1) >= 0, is);
            C.same("lag of " + p, x.lag(p) >= 0, is);
        }
    }

    private static void withoutADisk() {
        DiskBudgets x = new DiskBudgets();
        C.same("later", x.later(1, 0, 0), -1);
        C.same("share", x.share(1, 0), -1);
        C.same("when", x.when(0, 1), -1);
        C.same("late", x.late(1, 0, 0), -1);
        C.same("alone", x.alone(1, 0), -1);
        for (int w = 0; w < 2; w++) {
            C.same("idling", x.idling(1, w), -1);
            C.same("gain", x.gain(1, w), -1);
            C.same("latest", x.latest(1, 0, w), -1);
            C.same("expiry", x.expiry(0, w), -1);
            C.same("worst", x.worst(1, w), -1);
            C.same("slicing", x.slicing(1, w), -1);
            C.same("tells", x.tells(w), -1);
        }
        C.same("apart", x.apart(1), -1);
        C.same("least", x.least(1, 0, 1), -1);
        C.same("lag", x.lag(0), -1);
        C.same("fits", x.fits(), -1);
    }

    /** gain() asks for a disk alone, as fits() and tells() do; idling(), apart(), slicing() for PROCESSES. */
    private static void withoutProcesses() {
        DiskBudgets x = Checks.disk("disk 64 seek 1 rate 1;");
        for (int w = 0; w < 2; w++) {
            C.same("gain", x.gain(200, w), 0);
            C.same("idling", x.idling(200, w), -1);
            C.same("slicing", x.slicing(100, w), -1);
            C.same("latest", x.latest(400, 0, w), -1);
            C.same("worst", x.worst(400, w), -1);
            C.same("expiry", x.expiry(0, w), -1);
        }
        C.same("apart", x.apart(400), -1);
        C.same("fits", x.fits(), (1 << 21) - 1);
        C.same("tells", x.tells(0), 1);
        C.same("tells how many", x.tells(1), 21);
        C.same("lag", x.lag(0), -1);
        C.same("later", x.later(1, 0, 0), -1);
    }

    /** Six processes, of which the last one is active: all of them count, and no seventh. */
    private static void withSixProcesses() {
        StringBuilder b = new StringBuilder("disk 64 seek 64 rate 1;idle 3;near 0;");
        for (int p = 0; p < 6; p++) b.append("process ").append((char) ('a' + p)).append(" weight ").append(p == 5 ? 6 : 1).append(REST);
        DiskBudgets x = Checks.disk(b.toString());
        for (int p = 0; p < 6; p++) x.ask(p, 8 * p, p == 5 ? 9 : 1);
        x.ticks(1);
        C.same("the last one is active", x.has(4), 5);
        // f: a way of 1 and 9, done at 10; waited for till 13; then a: a way of 1 and 1, done at 15, ..
        C.same("later", x.later(11, 5, 1), 9);
        C.same("share", x.share(11, 5), 100);
        C.same("share of all", x.share(400, 5), 900 / 14);
        C.same("share of the first", x.share(400, 0), 100 / 14);
        C.same("when", x.when(5, 1), 10);
        C.same("late", x.late(400, 5, 9), 1);
        C.same("late", x.late(400, 5, 10), 0);
        C.same("alone", x.alone(400, 5), 9);
        C.same("idling", x.idling(200, 1), 14);
        C.same("gain", x.gain(200, 0), 14);
        C.same("apart", x.apart(10), Checks.bits(9f / 6f));
        C.same("apart", x.apart(400), Checks.bits(9f / 6f - 1f));
        C.same("latest", x.latest(10, 0, 0), 5);
        C.same("latest", x.latest(400, 15, 0), 1);
        C.same("worst", x.worst(10, 0), 5);
        C.same("worst", x.worst(400, 0), 4);
        C.same("least", x.least(100, 5, 9), 1);
        C.same("slicing", x.slicing(10, 1), 10);
        C.same("expiry", x.expiry(0, 1), 5);
        C.same("lag", x.lag(5), 0);
        see(x, 1, 5);
        C.same("fits", x.fits(), 0x1fffff);
        see(x, 1, 6);
        C.same("none is active: it does not fit", x.fits(), 0);
        see(x, 10, 5);
        C.same("active till it is done, unless idle is 0", x.fits(), 0x1ffffe);
        see(x, 10, 0);
        C.same("then a, by idle 0", x.fits(), 1);
        see(x, 60, 6);
        x.seed(1);
        C.same("tells", x.tells(1) > 0, true);
    }

    // ---- 15 to 19

    /** "of these TICKS alone .. 3 the greatest (0 without)" */
    private static void laterOfTheseTicksAlone() {
        DiskBudgets x = Checks.disk("disk 64 seek 64 rate 1;idle 0;process a weight 3" + REST);
        x.ask(0, 0, 9);
        x.ticks(10);
        C.same("done already", x.process(0, 12), 9);
        for (int w = 0; w < 4; w++) C.same("nothing more " + w, x.later(400, 0, w), 0);
        x.ask(0, 9, 2);
        int[] due = {1, 2, 2, 2};
        for (int w = 0; w < 4; w++) C.same("one more " + w, x.later(3, 0, w), due[w]);
        for (int w = 0; w < 4; w++) C.same("not yet " + w, x.later(2, 0, w), 0);
        x.ticks(2);
        C.same("a latency counts from its asking on, also ahead", x.later(1, 0, 2), 2);
    }

    /** "0 requests DONE, 1 SECTORS, 2 LATENCIES together, 3 the greatest" */
    private static void laterOfMany() {
        DiskBudgets x = Checks.disk("disk 64 seek 64 rate 1;idle 0;process a weight 3" + REST);
        x.ask(0, 0, 9);
        x.ask(0, 9, 2);
        x.ask(0, 11, 4);
        int[][] due = {{0, 0, 0, 0}, {1, 9, 9, 9}, {2, 11, 9 + 11, 11}, {3, 15, 9 + 11 + 15, 15}};
        int[] ends = {9, 10, 12, 16};
        for (int i = 0; i < 4; i++) for (int w = 0; w < 4; w++) C.same("later " + ends[i] + " " + w, x.later(ends[i], 0, w), due[i][w]);
        x.ticks(10);
        for (int w = 0; w < 4; w++) C.same("later from 10 on " + w, x.later(6, 0, w), new int[] {2, 6, 26, 15}[w]);
    }

    /** "in hundredths, cut" */
    private static void shareCut() {
        for (int[] s : new int[][] {{1, 2, 33, 66}, {2, 1, 66, 33}, {1, 1, 50, 50}, {1, 64, 1, 98}, {64, 1, 98, 1}, {1, 3, 25, 75}, {3, 4, 42, 57}}) {
            DiskBudgets x = Checks.disk("disk 200 seek 100 rate 64;idle 0;near 0;process a weight 1" + REST + "process b weight 1" + REST + "process e weight 1" + REST);
            x.ask(0, 0, s[0]);
            x.ask(1, 100, s[1]);
            C.same("a", x.share(400, 0), s[2]);
            C.same("b", x.share(400, 1), s[3]);
            C.same("e has none", x.share(400, 2), 0);
        }
    }

    /** "NONE when none is" */
    private static void shareOfNone() {
        DiskBudgets x = Checks.disk("disk 64 seek 64 rate 1;idle 0;process a weight 1" + REST + "process b weight 1" + REST);
        C.same("none", x.share(400, 0), -1);
        x.ask(1, 0, 3);
        C.same("none in 3", x.share(3, 1), -1);
        C.same("of a neither", x.share(3, 0), -1);
        C.same("all in 4", x.share(4, 1), 100);
        C.same("of a nothing", x.share(4, 0), 0);
    }

    /** "the k-th request of a PROCESS from now on (1 .. 40)" */
    private static void whenTheKth() {
        DiskBudgets x = Checks.disk("disk 64 seek 64 rate 1;idle 0;process a weight 1 from 0 does at 0 take 1 think 1;");
        // Asked at 0; done at 1; then asked at 2, with a way of one: done each third tick.
        C.same("first", x.when(0, 1), 2);
        C.same("second", x.when(0, 2), 5);
        C.same("40th", x.when(0, 40), 2 + 3 * 39);
        C.same("0th", x.when(0, 0), -1);
        C.same("41st", x.when(0, 41), -1);
        x.ticks(2);
        C.same("from now on", x.when(0, 1), 3);
    }

    /** "In how many TICKS AHEAD (400 at most) .. NONE when not by then" */
    private static void whenIn400() {
        for (int from = 396; from <= 401; from++) {
            DiskBudgets x = Checks.disk("disk 64 seek 64 rate 1;process a weight 1 from " + from + " does on take 1 think 0;");
            C.same("from " + from, x.when(0, 1), from <= 398 ? from + 2 : -1);
        }
    }

    /** "have a LATENCY above one (0 and on)" */
    private static void lateAbove() {
        DiskBudgets x = Checks.disk("disk 64 seek 64 rate 1;idle 0;process a weight 1" + REST);
        x.ask(0, 0, 3);
        x.ask(0, 3, 2);
        int[][] due = {{-1, -1}, {0, 2}, {1, 2}, {2, 2}, {3, 1}, {4, 1}, {5, 0}, {6, 0}, {MOST, 0}, {LEAST, -1}};
        for (int[] s : due) C.same("late above " + s[0], x.late(400, 0, s[0]), s[1]);
        for (int[] s : due) C.same("latest above " + s[0], x.latest(400, s[0], 1), s[1] == 0 ? -1 : s[1]);
    }

    /** "ALONE: no other PROCESS is ON"; "if it is ON, ALONE" */
    private static void aloneIfItIsOn() {
        DiskBudgets x = Checks.disk("disk 64 seek 64 rate 1;idle 0;near 0;process a weight 1 from 0 does at 0 take 1 think 0;process b weight 100 from 0 does at 40 take 5 think 0;");
        int a = x.alone(100, 0);
        int b = x.alone(100, 1);
        C.same("more than beside the other", a > x.later(100, 0, 1), true);
        C.same("more than beside the other", b > x.later(100, 1, 1), true);
        C.same("one each second tick but the first", a, 50);
        x.on(0, false);
        C.same("also if it is not on now", x.alone(100, 0), a);
        C.same("b", x.alone(100, 1), b);
        x.on(1, false);
        C.same("none is on", x.alone(100, 0), a);
        C.same("none is on", x.alone(100, 1), b);
        C.same("as it is nothing is done", x.later(100, 0, 1), 0);
    }

    /** What lies there goes, whoever is on: and only its own is counted. */
    private static void aloneWithWhatLies() {
        DiskBudgets x = Checks.disk("disk 64 seek 64 rate 1;idle 0;near 0;process a weight 1" + REST + "process b weight 1" + REST);
        x.ask(0, 0, 5);
        x.ask(1, 5, 7);
        C.same("a", x.alone(5, 0), 0);
        C.same("a", x.alone(6, 0), 5);
        C.same("b behind a", x.alone(12, 1), 0);
        C.same("b behind a", x.alone(13, 1), 7);
    }

    // ---- 20 to 24

    /** "of like ones the least" */
    private static void idlingTheLeast() {
        DiskBudgets x = Checks.disk("disk 64 seek 64 rate 1;idle 9;process a weight 1" + REST);
        C.same("nothing is done by any", x.idling(200, 0), 0);
        C.same("how many", x.idling(200, 1), 0);
        x.ask(0, 0, 1);
        C.same("the same by all", x.idling(200, 0), 0);
        C.same("how many", x.idling(200, 1), 1);
    }

    /** a reads on at once if it is waited for; b jumps far: by idle 2 a is waited for. */
    private static void idlingMost() {
        DiskBudgets x = Checks.disk("disk 9999 seek 50 rate 8;idle 0;near 0;budget 99 to 99;process a weight 1 from 0 does on take 8 think 2;process b weight 1 from 0 does at 5000 take 1 think 0,at 1 take 1 think 0;");
        int best = -1;
        int most = -1;
        for (int i = 0; i <= 20; i++) {
            DiskBudgets y = Checks.disk("disk 9999 seek 50 rate 8;idle " + i + ";near 0;budget 99 to 99;process a weight 1 from 0 does on take 8 think 2;process b weight 1 from 0 does at 5000 take 1 think 0,at 1 take 1 think 0;");
            int done = y.later(200, 0, 1) + y.later(200, 1, 1);
            if (done > most) {
                most = done;
                best = i;
            }
        }
        C.same("some more than 0", best > 0, true);
        C.same("idling", x.idling(200, 0), best);
        C.same("how many", x.idling(200, 1), most);
        C.same("more than by 0", x.gain(200, 0) < most, true);
    }

    /** "(0 .. 20; what 0)": a is waited for by as many ticks as it thinks, and far b costs the rest. */
    private static void idlingUpTo20() {
        for (int think : new int[] {0, 1, 2, 10, 19, 20, 21}) {
            DiskBudgets x = Checks.disk("disk 9999 seek 50 rate 64;near 0;slice 200;budget 999 to 999;process a weight 2 from 0 does on take 64 think " + think
                    + ";process b weight 1 from 0 does at 9000 take 1 think 0;");
            C.same("idling, a thinks " + think, x.idling(150, 0), think <= 20 ? think : 0);
            C.same("sectors, a thinks " + think, x.idling(150, 1) > 64, think <= 20);
        }
    }

    /** "told now": UNTIL, which is told already, stays as it is. */
    private static void idlingToldNow() {
        DiskBudgets x = Checks.disk("disk 64 seek 64 rate 1;idle 20;near 0;process a weight 1" + REST + "process b weight 1" + REST);
        x.ask(0, 0, 1);
        x.ask(1, 40, 1);
        x.ticks(2);
        C.same("until", x.has(7), 21);
        C.same("b is done in 22 at the earliest, by any", x.idling(21, 1), 0);
        C.same("by 0, too", x.gain(21, 1), 0);
        C.same("b is done then", x.idling(22, 1), 1);
        C.same("by 0, too", x.gain(22, 1), 1);
    }

    /** "by the number idle as it is (what 0), by 0, told now (1)" */
    private static void gainByBoth() {
        DiskBudgets x = Checks.disk("disk 64 seek 64 rate 1;idle 3;near 0;process a weight 1" + REST + "process b weight 1" + REST);
        x.ask(0, 0, 1);
        x.ask(1, 40, 2);
        // a is done at 1; b goes then, or at 4: a way of 1 and 2 sectors.
        int[][] due = {{1, 0, 0}, {2, 1, 1}, {4, 1, 1}, {5, 1, 3}, {7, 1, 3}, {8, 3, 3}, {200, 3, 3}};
        for (int[] s : due) {
            C.same("as it is " + s[0], x.gain(s[0], 0), s[1]);
            C.same("by 0 " + s[0], x.gain(s[0], 1), s[2]);
        }
        x.idle(0);
        C.same("it is 0", x.gain(5, 0), 3);
    }

    /** Of one alone the greatest is the least. */
    private static void apartOfOne() {
        DiskBudgets x = Checks.disk("disk 64 seek 64 rate 1;process a weight 7 from 0 does on take 1 think 0;");
        C.same("apart", x.apart(400), 0);
    }

    /** "the greatest less the least of all PROCESSES, a FLOAT" */
    private static void apartGreatestLessLeast() {
        DiskBudgets x = Checks.disk("disk 64 seek 64 rate 1;idle 0;near 0;process a weight 7" + REST + "process b weight 3" + REST + "process e weight 9" + REST);
        C.same("none", x.apart(400), 0);
        x.ask(0, 0, 5);
        C.same("a", x.apart(400), Checks.bits(5f / 7f - 0f));
        x.ask(1, 20, 7);
        C.same("b less e", x.apart(400), Checks.bits(7f / 3f));
        x.ask(2, 40, 1);
        C.same("b less e", x.apart(400), Checks.bits(7f / 3f - 1f / 9f));
        x.weight(1, 100);
        C.same("a less b", x.apart(400), Checks.bits(5f / 7f - 7f / 100f));
        // By the weight itself, not by the raised one.
        DiskBudgets y = Checks.disk("disk 64 seek 64 rate 1;raise 20 for 500 rest 1;process a weight 7" + REST + "process b weight 3" + REST);
        y.ticks(5);
        y.ask(0, 0, 5);
        C.same("raised", y.queue(0, 8), 140);
        C.same("by its weight", y.apart(400), Checks.bits(5f / 7f));
    }

    /** By weights of 1 and of 100. */
    private static void apartByTheLeastWeight() {
        DiskBudgets x = Checks.disk("disk 64 seek 64 rate 1;idle 0;near 0;process a weight 1" + REST + "process b weight 100" + REST);
        x.ask(0, 0, 5);
        x.ask(1, 20, 7);
        C.same("5 less 0.07", x.apart(400), Checks.bits(5f - 7f / 100f));
        x.weight(0, 100);
        x.weight(1, 1);
        C.same("7 less 0.05", x.apart(400), Checks.bits(7f - 5f / 100f));
    }

    /** "of like ones the first" */
    private static void latestTheFirst() {
        DiskBudgets x = Checks.disk("disk 64 seek 64 rate 1;idle 0;near 0;process a weight 1" + REST + "process b weight 1" + REST + "process e weight 1" + REST);
        x.ask(1, 10, 1);
        x.ask(2, 20, 1);
        C.same("one each: b", x.latest(400, 0, 0), 1);
        C.same("how many", x.latest(400, 0, 1), 1);
        x.ask(2, 30, 1);
        C.same("two of e", x.latest(400, 0, 0), 2);
        C.same("how many", x.latest(400, 0, 1), 2);
        x.ask(0, 0, 1);
        x.ask(0, 1, 1);
        C.same("two of a, too", x.latest(400, 0, 0), 0);
    }

    /** "NONE when none has" */
    private static void latestOfNone() {
        DiskBudgets x = Checks.disk("disk 64 seek 64 rate 1;idle 0;process a weight 1" + REST);
        C.same("none is done", x.latest(400, 0, 0), -1);
        x.ask(0, 0, 5);
        for (int w = 0; w < 2; w++) {
            C.same("above 4", x.latest(400, 4, w), w);
            C.same("above 5", x.latest(400, 5, w), -1);
            C.same("above -1", x.latest(400, -1, w), -1);
            C.same("above the most", x.latest(400, MOST, w), -1);
        }
    }

    /** "at least so many of its SECTORS (1 and on)" */
    private static void leastFromOneOn() {
        DiskBudgets x = Checks.disk("disk 64 seek 64 rate 1;idle 0;process a weight 50" + REST);
        x.ask(0, 0, 5);
        int[][] due = {{0, -1}, {-1, -1}, {LEAST, -1}, {1, 1}, {5, 1}, {6, -1}, {MOST, -1}};
        for (int[] s : due) C.same("least of " + s[0], x.least(100, 0, s[0]), s[1]);
        C.same("its weight stays", x.process(0, 0), 50);
    }

    /** "The least weight (1 .. 100)": b must be above a's weight, as a is the first of like ones. */
    private static void leastUpTo100() {
        for (int weight : new int[] {1, 2, 50, 98, 99, 100}) {
            DiskBudgets x = Checks.disk("disk 999 seek 500 rate 1;near 0;process a weight " + weight + " from 0 does at 100 take 9 think 0;process b weight 1 from 0 does at 500 take 9 think 0;");
            C.same("b above " + weight, x.least(12, 1, 9), weight == 100 ? -1 : weight + 1);
            C.same("a", x.least(12, 0, 9), 1);
        }
    }

    // ---- 25 to 28

    /** "The k-th (0 and on) that EXPIRES .. NONE when there is none such" */
    private static void expiryKth() {
        DiskBudgets x = Checks.disk("disk 64 seek 64 rate 1;idle 0;near 0;process a weight 1" + REST + "process b weight 1" + REST);
        C.same("none", x.expiry(0, 0), -1);
        x.ask(0, 0, 3);
        x.ask(1, 3, 2);
        int[][] due = {{4, 0, 2, 3}, {6, 1, 2, 2}};
        for (int k = 0; k < 2; k++) for (int w = 0; w < 4; w++) C.same("expiry " + k + " " + w, x.expiry(k, w), due[k][w]);
        for (int k : new int[] {-1, 2, LEAST, MOST}) C.same("expiry " + k, x.expiry(k, 0), -1);
        x.ticks(4);
        C.same("kept behind so many", x.has(11), 1);
        C.same("those that expired are not among them", x.expiry(0, 1), 1);
        C.same("in so many from now on", x.expiry(0, 0), 2);
        // More than the 40 that are told as KEPT.
        DiskBudgets y = Checks.disk("disk 64 seek 64 rate 64;idle 0;process a weight 1 from 0 does at 5 take 1 think 1;");
        for (int k : new int[] {0, 39, 40, 41, 100}) {
            C.same("expiry " + k, y.expiry(k, 0), 3 + 3 * k);
            C.same("served " + k, y.expiry(k, 3), 1);
        }
    }

    /** "in 400 TICKS AHEAD" */
    private static void expiryIn400() {
        for (int from = 397; from <= 400; from++) {
            DiskBudgets x = Checks.disk("disk 64 seek 64 rate 1;idle 0;process a weight 1 from " + from + " does on take 1 think 9;");
            for (int w = 0; w < 4; w++) C.same("from " + from + " " + w, x.expiry(0, w) == -1, from > 398);
        }
    }

    /** "(what 0; of like ones the first PROCESS)" */
    private static void worstTheFirst() {
        DiskBudgets x = Checks.disk("disk 64 seek 64 rate 1;idle 0;near 0;process a weight 1" + REST + "process b weight 1" + REST + "process e weight 1" + REST);
        x.ask(1, 0, 3);
        C.same("b alone", x.worst(400, 0), 1);
        C.same("3", x.worst(400, 1), 3);
        x.ticks(4);
        // e is done first, with 2; a then, also with 2.
        x.ask(2, 3, 2);
        x.ticks(1);
        x.ticks(2);
        C.same("e is done", x.process(2, 9), 1);
        x.undo();
        x.undo();
        C.same("e ahead", x.worst(400, 0), 2);
        C.same("2", x.worst(400, 1), 2);
        DiskBudgets y = Checks.disk("disk 64 seek 64 rate 1;idle 0;near 0;process a weight 1 from 9 does at 20 take 1 think 9;process b weight 1 from 0 does at 40 take 1 think 200;");
        // b: asked at 0, a way of 1 and 1: 2. a: asked at 9, a way of 1 and 1: 2.
        C.same("a, though b was first", y.worst(20, 0), 0);
        C.same("both 2", y.worst(20, 1), 2);
        C.same("b in 5", y.worst(5, 0), 1);
        DiskBudgets z = Checks.disk("disk 64 seek 64 rate 1;idle 0;near 0;process a weight 1 from 9 does at 20 take 1 think 9;process b weight 1 from 0 does at 40 take 2 think 200;");
        C.same("b, its is greater", z.worst(20, 0), 1);
    }

    /** "NONE when none is DONE" */
    private static void worstOfNone() {
        DiskBudgets x = Checks.disk("disk 64 seek 64 rate 1;idle 0;process a weight 1" + REST);
        x.ask(0, 0, 5);
        for (int w = 0; w < 2; w++) {
            C.same("in 5", x.worst(5, w), -1);
            C.same("in 6", x.worst(6, w), w == 0 ? 0 : 5);
        }
        x.ticks(6);
        for (int w = 0; w < 2; w++) C.same("none more", x.worst(400, w), -1);
    }

    /** "of like ones the greatest number" */
    private static void slicingTheGreatest() {
        DiskBudgets x = Checks.disk("disk 64 seek 64 rate 1;idle 0;slice 3;process a weight 1" + REST);
        x.ask(0, 0, 5);
        C.same("all alike", x.slicing(100, 0), 200);
        C.same("5", x.slicing(100, 1), 5);
        C.same("slice stays", x.has(9), 3);
    }

    /** "by which the greatest LATENCY .. is least": by 1 and 2 b goes behind a's first one, by 3 and 4 behind its second, .. */
    private static void slicingLeast() {
        DiskBudgets x = Checks.disk("disk 64 seek 64 rate 1;budget 60 to 60;idle 0;near 0;process a weight 9 from 0 does on take 2 think 0;process b weight 1 from 0 does at 40 take 1 think 200;");
        C.same("1 and 2 are alike: 2", x.slicing(100, 0), 2);
        C.same("a waits for 5 then", x.slicing(100, 1), 5);
        int[][] due = {{1, 5}, {2, 5}, {3, 6}, {4, 6}, {5, 8}, {6, 8}, {7, 10}, {200, 62}};
        for (int[] s : due) {
            x.slice(s[0]);
            C.same("by " + s[0], x.worst(100, 1), s[1]);
            C.same("slice is told anew", x.slicing(100, 0), 2);
        }
        C.same("b is not done in 5 but by 1 and 2, and that takes 4", x.slicing(5, 0), 200);
        C.same("2", x.slicing(5, 1), 2);
    }

    /** "The number slice (1 .. 200)": where only the least one parts a from b, and where all but the greatest do. */
    private static void slicingOfOneAndOf199() {
        // e reads 30; a then, from there on, in its first tick; by 1 b is next: it waited for 31, a way of 1, and 1.
        DiskBudgets x = Checks.disk("disk 64 seek 64 rate 1;idle 0;near 0;process a weight 1 from 0 does at 30 take 1 think 0,on take 1 think 0;"
                + "process b weight 1 from 0 does at 60 take 1 think 200;process e weight 100" + REST);
        x.ask(2, 0, 30);
        C.same("by 1 alone", x.slicing(100, 0), 1);
        C.same("33", x.slicing(100, 1), 33);
        x.slice(2);
        C.same("by 2", x.worst(100, 1), 34);
        // a is active for 199 ticks when it chooses again: by all but 200 b is next.
        DiskBudgets y = Checks.disk("disk 999 seek 500 rate 1;idle 0;near 0;budget 999 to 999;slice 200;process a weight 1 from 0 does on take 1 think 0;process b weight 1" + REST);
        y.ticks(180);
        y.ask(1, 500, 1);
        y.ticks(19);
        C.same("began at 0", y.has(6), 0);
        C.same("the tick", y.has(2), 199);
        C.same("by 199", y.slicing(100, 0), 199);
        C.same("it waited for 19, a way of 1, and 1", y.slicing(100, 1), 21);
        y.ticks(1);
        C.same("a tick later by 200, too", y.slicing(100, 0), 200);
        C.same("22", y.slicing(100, 1), 22);
    }

    /** By a short one b goes, on its long way, and none is done in time: 0 is the least. */
    private static void slicingByWhichNoneIsDone() {
        DiskBudgets x = Checks.disk("disk 9999 seek 1 rate 1;idle 20;near 0;process a weight 1" + REST + "process b weight 1" + REST);
        x.ask(0, 0, 1);
        x.ask(1, 5000, 1);
        x.ticks(9);
        C.same("a is waited for", x.has(7), 21);
        x.ask(0, 1, 1);
        C.same("by 9 at most none is done", x.slicing(2, 0), 9);
        C.same("0", x.slicing(2, 1), 0);
        x.slice(10);
        C.same("by 10 one is done", x.worst(2, 1), 1);
    }

    /** "(1 .. 200)": 0 and 201, which would do better here, are none. */
    private static void slicingNeitherBy0NorBy201() {
        // By 0 a's TOP were 1, and it were next at once; by 1 and on b, on its way of 10, is ahead of it.
        DiskBudgets x = Checks.disk("disk 9999 seek 100 rate 64;idle 0;near 0;budget 1 to 99;process e weight 100" + REST + "process a weight 100" + REST + "process b weight 60" + REST);
        x.ask(0, 0, 64);
        x.ask(1, 64, 50);
        x.ask(1, 114, 1);
        x.ask(2, 1000, 1);
        C.same("all alike", x.slicing(100, 0), 200);
        C.same("e 1, a 1, b a way of 9 and 1, a a way of 9 and 1", x.slicing(100, 1), 22);
        C.same("b is ahead", x.when(2, 1) < x.when(1, 2), true);
        // By 201 a's last one, which was asked for at 0, were ahead of b.
        DiskBudgets y = Checks.disk("disk 9999 seek 100 rate 1;idle 0;near 0;budget 999 to 999;slice 200;process a weight 1" + REST + "process b weight 1" + REST);
        for (int i = 0; i < 4; i++) y.ask(0, 50 * i, 50);
        y.ask(0, 200, 1);
        y.ticks(190);
        y.ask(1, 1200, 1);
        y.ticks(10);
        C.same("a is active since 0", y.has(6), 0);
        C.same("all alike", y.slicing(100, 0), 200);
        C.same("200, b a way of 10 and 1, a a way of 11 and 1", y.slicing(100, 1), 223);
    }

    /** "(1 .. 100; 0, if none is DONE)" */
    private static void slicingWithout() {
        DiskBudgets x = Checks.disk("disk 64 seek 64 rate 1;idle 0;process a weight 1" + REST);
        C.same("none is done by any", x.slicing(100, 0), 200);
        C.same("0", x.slicing(100, 1), 0);
        x.ask(0, 0, 5);
        C.same("none in 5", x.slicing(5, 1), 0);
        C.same("one in 6", x.slicing(6, 1), 5);
    }

    /** "START of a QUEUE less NOW, a FLOAT" */
    private static void lagBothWays() {
        DiskBudgets x = Checks.disk("disk 64 seek 64 rate 1;idle 0;near 0;process a weight 1" + REST + "process b weight 3" + REST);
        C.same("like ones", x.lag(0), 0);
        x.ask(0, 0, 4);
        x.ask(1, 32, 4);
        x.ticks(6);
        C.same("below now", x.lag(0), Checks.bits(0f - 1f));
        C.same("above now", x.lag(1), Checks.bits(4f / 3f - 1f));
    }

    // ---- 29: see

    /** Rows of the numbers of ticks and queues; without any, nothing is fed. */
    private static int see(DiskBudgets x, int... bytes) {
        if (bytes.length > 0) Checks.put(x, bytes);
        return x.see();
    }

    private static int[] rows(int many) {
        int[] bytes = new int[2 * many];
        for (int i = 0; i < many; i++) {
            bytes[2 * i] = 1 + i;
            bytes[2 * i + 1] = 6;
        }
        return bytes;
    }

    /** "1 to 16 rows of two bytes" */
    private static void seeRows() {
        for (int many : new int[] {0, 1, 2, 15, 16, 17, 20, 50}) {
            DiskBudgets x = Checks.disk(ONE);
            boolean taken = many >= 1 && many <= 16;
            C.same(many + " rows", see(x, rows(many)), taken ? many : -1);
            C.same("seen", x.has(12), taken ? many : 0);
            C.same("refused", x.status(5), taken ? 0 : 1);
            C.same("the tape goes", x.end(1), false);
        }
        for (int length : new int[] {1, 3, 31, 33}) {
            DiskBudgets x = Checks.disk(ONE);
            Checks.put(x, java.util.Arrays.copyOf(rows(20), length));
            C.same(length + " bytes", x.see(), -1);
            C.same("seen", x.has(12), 0);
        }
    }

    /** "(TICKS AHEAD 1 .. 60; a QUEUE that there is, or 6)" */
    private static void seeTicksAndQueues() {
        for (int t : new int[] {0, 1, 2, 59, 60, 61, 127, 128, 255}) {
            DiskBudgets x = Checks.disk(ONE);
            boolean taken = t >= 1 && t <= 60;
            C.same("tick " + t, see(x, t, 6), taken ? 1 : -1);
            C.same("tick " + t + " in the last row", see(x, 1, 0, 60, 6, t, 0), taken ? 3 : -1);
        }
        for (int many = 0; many <= 6; many++) {
            StringBuilder b = new StringBuilder("disk 64 seek 1 rate 1;");
            for (int p = 0; p < many; p++) b.append("process ").append((char) ('a' + p)).append(" weight 1").append(REST);
            DiskBudgets x = Checks.disk(b.toString());
            for (int q : new int[] {0, 1, 2, 3, 4, 5, 6, 7, 8, 128, 255}) {
                C.same("queue " + q + " of " + many, see(x, 1, q), q < many || q == 6 ? 1 : -1);
                C.same("queue " + q + " of " + many + " in the last row", see(x, 1, 6, 2, q), q < many || q == 6 ? 2 : -1);
            }
        }
    }

    /** "NONE, refused (5), all staying, when it is none such, or without a disk" */
    private static void seeRefusedStays() {
        int[][] wrong = {{}, {1}, {0, 6}, {61, 6}, {1, 2}, {1, 7}, {3, 0, 1}, {3, 0, 3, 0, 0, 0}, rows(17)};
        for (int[] bytes : wrong) {
            Standing.stays(C, "see of " + bytes.length, x -> {
                Checks.put(x, ONE);
                x.disk();
                x.ticks(3);
                Checks.put(x, 9, 0, 4, 6);
                x.see();
            }, x -> C.same("see", see(x, bytes), -1), 5);
        }
        DiskBudgets none = new DiskBudgets();
        C.same("without a disk", see(none, 1, 6), -1);
        C.same("refused", none.status(5), 1);
        C.same("seen", none.has(12), 0);
        C.same("the tape goes", none.end(1), false);
    }

    /** What is SEEN is what the latest see() told. */
    private static void seeTakesThePlaceOfFormer() {
        DiskBudgets x = Checks.disk(ONE);
        C.same("16", see(x, rows(16)), 16);
        C.same("then one", see(x, 3, 0), 1);
        C.same("seen", x.has(12), 1);
        C.same("fits", x.fits(), (1 << 21) - 2);
        x.ticks(1);
        C.same("undo", x.undo(), true);
        C.same("seen stays", x.has(12), 1);
    }

    // ---- 30: fits. Active from 0 on, done at 2; it asks again at 5: by idle 3 and more it stays active, by less it ends at 2 + idle.

    /** "(all, if nothing is)": bits 0 .. 20 */
    private static void fitsOfNothingSeen() {
        C.same("all 21", Checks.disk(ONE).fits(), 0x1fffff);
        C.same("without a disk", new DiskBudgets().fits(), -1);
    }

    /** "by which, told now, all is so" */
    private static void fitsAllRows() {
        DiskBudgets x = Checks.disk(ONE);
        int[][][] all = {{{1, 0}, {0x1fffff}}, {{1, 6}, {0}}, {{2, 0}, {0x1fffff}}, {{3, 0}, {0x1ffffe}}, {{3, 6}, {1}}, {{4, 0}, {0x1ffffc}},
            {{5, 0}, {0x1ffff8}}, {{5, 6}, {7}}, {{6, 0}, {0x1fffff}}, {{5, 6, 4, 0}, {4}}, {{4, 0, 5, 6}, {4}}, {{5, 6, 4, 6, 3, 0}, {2}},
            {{5, 6, 5, 0}, {0}}, {{5, 0, 5, 0}, {0x1ffff8}}, {{5, 1}, {0}}, {{5, 0, 6, 1}, {0}}};
        for (int[][] s : all) {
            C.same("see", see(x, s[0]), s[0].length / 2);
            C.same("fits of " + java.util.Arrays.toString(s[0]), x.fits(), s[1][0]);
        }
    }

    /** All sixteen rows count, the last one, too. */
    private static void fitsOfSixteenRows() {
        for (int odd = 0; odd < 16; odd++) {
            int[] bytes = new int[32];
            for (int i = 0; i < 16; i++) {
                bytes[2 * i] = i == odd ? 3 : 1;
                bytes[2 * i + 1] = 0;
            }
            DiskBudgets x = Checks.disk(ONE);
            C.same("see", see(x, bytes), 16);
            C.same("the row " + odd + " counts", x.fits(), 0x1ffffe);
            C.same("tells", x.tells(0), 5);
        }
    }

    /** Rows tell of ticks AHEAD: from now on, whenever fits() is asked. */
    private static void fitsAreAhead() {
        DiskBudgets x = Checks.disk(ONE);
        see(x, 3, 0);
        C.same("fits", x.fits(), 0x1ffffe);
        x.ticks(1);
        C.same("the tick then is another", x.fits(), 0x1ffffc);
        // The last row that can be: behind 60 ticks; b asks at 59 or at 60 of them.
        for (int from = 58; from <= 61; from++) {
            DiskBudgets y = Checks.disk("disk 64 seek 64 rate 1;process a weight 1 from " + from + " does on take 9 think 0;");
            see(y, 60, 0);
            C.same("from " + from, y.fits(), from <= 59 ? 0x1fffff : 0);
            see(y, 60, 6);
            C.same("none, from " + from, y.fits(), from <= 59 ? 0 : 0x1fffff);
        }
    }

    /** What is told already stays: UNTIL does. And idle itself is not changed. */
    private static void fitsToldNow() {
        DiskBudgets x = Checks.disk(ONE);
        x.ticks(3);
        C.same("until", x.has(7), 6);
        see(x, 1, 0, 2, 0);
        C.same("by all", x.fits(), 0x1fffff);
        x.idle(0);
        C.same("by all", x.fits(), 0x1fffff);
        C.same("idle", x.has(8), 0);
    }

    // ---- 31: tells

    /** "the most FITS left are fewest; of like ones the first" */
    private static void tellsTheFirst() {
        DiskBudgets x = Checks.disk(ONE);
        C.same("at 5 it is 18 against 3", x.tells(0), 5);
        C.same("18", x.tells(1), 18);
        see(x, 5, 6);
        C.same("0, 1, 2 fit: at 3 and at 4 two are left", x.tells(0), 3);
        C.same("2", x.tells(1), 2);
        see(x, 5, 6, 3, 0);
        C.same("1, 2 fit: at 4 one is left", x.tells(0), 4);
        C.same("1", x.tells(1), 1);
    }

    /** "(1 .. 60)" */
    private static void tellsUpTo60() {
        // idle tells first behind the tick in which a is done, or later: a asked at from, is done at from + 1.
        for (int from = 56; from <= 60; from++) {
            DiskBudgets x = Checks.disk("disk 64 seek 64 rate 1;process a weight 1 from " + from + " does on take 1 think 200;");
            // Behind from + 2 ticks idle 0 is told apart; with more ticks more of them.
            int last = Math.min(60, from + 1 + 11);
            int apart = Math.max(0, Math.min(60, last) - (from + 1));
            int most = 21 - apart;
            C.same("from " + from, x.tells(0), apart == 0 ? 1 : last);
            C.same("most, from " + from, x.tells(1), most);
        }
        DiskBudgets y = Checks.disk("disk 64 seek 64 rate 1;process a weight 1 from 0 does on take 1 think 200;");
        C.same("halves them", y.tells(0), 11);
        C.same("11", y.tells(1), 11);
    }

    /** One FIT alone: nothing tells more than the first tick. */
    private static void tellsOfOne() {
        DiskBudgets x = Checks.disk(ONE);
        see(x, 3, 6);
        C.same("one fits", x.fits(), 1);
        C.same("tells", x.tells(0), 1);
        C.same("one", x.tells(1), 1);
    }

    /** "NONE without any, a disk, or for others" */
    private static void tellsWithoutAny() {
        DiskBudgets x = Checks.disk(ONE);
        see(x, 1, 6);
        C.same("none fits", x.fits(), 0);
        for (int w = -1; w <= 2; w++) C.same("tells " + w, x.tells(w), -1);
        for (int w = -1; w <= 2; w++) C.same("without a disk " + w, new DiskBudgets().tells(w), -1);
    }
}
