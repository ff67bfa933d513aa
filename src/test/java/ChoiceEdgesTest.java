/** The edges of II, from CHOOSES on: budgets, slices, pauses, whose turn it is, what is done, what expires. */
public final class ChoiceEdgesTest {
    private static final Checks C = new Checks();
    private static final String REST = " from 999 does on take 1 think 0;";
    private static final String A = "process a weight 1" + REST;
    private static final String B = "process b weight 1" + REST;
    private static final int SPENT = 0;
    private static final int SLICED = 1;
    private static final int PAUSED = 2;

    public static void main(String[] args) {
        togetherMoreThanBudget();
        firstOneBeyondBudget();
        sliceAtLeast();
        budgetAheadOfSlice();
        comesAtUntil();
        untilItself();
        untilWithoutIdle();
        likeFinishes();
        startAtMostNow();
        startAboveNow();
        leastStartOfThem();
        backloggedOrActive();
        nextNotBelowHead();
        nextOfLikeOnes();
        wayByWholeSeeks();
        sectorsByWholeRates();
        headBehindTheLastSector();
        nowByTheWeightsTogether();
        nowByRaisedWeights();
        nowRoundedEachTime();
        meanRoundedEachTime();
        doneByHandWaitsOn();
        doneOfAStreamThinksOn();
        latenciesCount();
        meanIsIdleAtMost();
        idleForNoStream();
        untilOnlyIfNoneLies();
        idleWithNothingToWait();
        topWithinLeastAndMost();
        topIsCut();
        topAsAFloat();
        rateIsLearnt();
        rateOfOneTick();
        meansBelowAllNormalFloats();
        twiceTheBudget();
        servedAsBudget();
        halfTheBudget();
        halfCut();
        notBelowLeast();
        notAboveTop();
        startGoesByWeight();
        finishIfRequestsLie();
        lastFortyKept();
        C.close();
    }

    // ---- the one that is active

    /** "SERVED and it together are more than BUDGET": as much as BUDGET still goes. */
    private static void togetherMoreThanBudget() {
        for (int many = 3; many <= 5; many++) {
            DiskBudgets x = Checks.disk("disk 64 seek 64 rate 1;budget 8 to 8;slice 200;" + A);
            x.ask(0, 0, 4);
            x.ask(0, 4, many);
            x.ticks(4);
            C.same("none kept yet", x.has(11), 0);
            x.ticks(1);
            C.same("served", x.process(0, 10), 4);
            C.same("it goes", x.has(5), many);
            C.same("kept with " + many, x.has(11), many > 4 ? 1 : 0);
            C.same("how", x.kept(0, 2), many > 4 ? SPENT : -1);
            C.same("when", x.kept(0, 0), many > 4 ? 4 : -1);
            C.same("served", x.queue(0, 2), many > 4 ? 0 : 4);
            C.same("began", x.has(6), many > 4 ? 4 : 0);
        }
    }

    /** "if SERVED is not 0": the first one goes, however large it is. */
    private static void firstOneBeyondBudget() {
        DiskBudgets x = Checks.disk("disk 64 seek 64 rate 1;budget 1 to 1;idle 0;slice 200;" + A);
        x.ask(0, 0, 64);
        x.ask(0, 0, 1);
        x.ticks(1);
        C.same("64 go", x.has(5), 64);
        C.same("none kept", x.has(11), 0);
        x.ticks(64);
        C.same("then it is spent", x.kept(0, 2), SPENT);
        C.same("served", x.kept(0, 3), 64);
        C.same("the next goes", x.has(5), 2);
    }

    /** "if the TICK less BEGAN is slice at least, it EXPIRES (1)" */
    private static void sliceAtLeast() {
        for (int slice = 3; slice <= 6; slice++) {
            DiskBudgets x = Checks.disk("disk 64 seek 64 rate 1;budget 999 to 999;slice " + slice + ";" + A);
            x.ask(0, 0, 4);
            x.ask(0, 4, 1);
            x.ask(0, 5, 1);
            x.ask(0, 6, 1);
            x.ticks(7);
            int at = Math.max(4, slice);
            C.same("kept at, by " + slice, x.kept(0, 0), at);
            C.same("how, by " + slice, x.kept(0, 2), SLICED);
            C.same("served, by " + slice, x.kept(0, 3), at);
            C.same("began, by " + slice, x.has(6), at);
        }
        for (int last = 39; last <= 40; last++) {
            DiskBudgets y = Checks.disk("disk 9999 seek 500 rate 1;budget 999 to 999;slice 200;" + A);
            for (int i = 0; i < 6; i++) y.ask(0, 40 * i, i == 4 ? last : 40);
            y.ticks(200);
            C.same("below 200 none expires", y.has(11), 0);
            y.ticks(1);
            C.same("at 200, the fifth done at " + (160 + last), y.kept(0, 0), last == 40 ? 200 : -1);
            C.same("how", y.kept(0, 2), last == 40 ? SLICED : -1);
        }
    }

    /** "makes it EXPIRE (0); else, if .. slice .." */
    private static void budgetAheadOfSlice() {
        DiskBudgets x = Checks.disk("disk 64 seek 64 rate 1;budget 8 to 8;slice 4;" + A);
        x.ask(0, 0, 4);
        x.ask(0, 4, 5);
        x.ticks(5);
        C.same("both: 0", x.kept(0, 2), SPENT);
        DiskBudgets y = Checks.disk("disk 64 seek 64 rate 1;budget 8 to 8;slice 4;" + A);
        y.ask(0, 0, 4);
        y.ask(0, 4, 4);
        y.ticks(5);
        C.same("the slice alone: 1", y.kept(0, 2), SLICED);
        C.same("at once active again", y.has(6), 4);
    }

    /** One that comes in the tick that is UNTIL still goes: (b) is ahead of (c). */
    private static void comesAtUntil() {
        for (int think = 2; think <= 5; think++) {
            DiskBudgets x = Checks.disk("disk 64 seek 64 rate 1;idle 3;process a weight 1 from 0 does on take 1 think " + think + ";");
            x.ticks(2);
            C.same("until", x.has(7), 4);
            x.ticks(think);
            C.same("asked, by " + think, x.process(0, 5), 1);
            C.same("kept, by " + think, x.has(11), think > 3 ? 1 : 0);
            C.same("began, by " + think, x.has(6), think > 3 ? 1 + think : 0);
        }
    }

    /** "while the TICK is below UNTIL nothing comes; else it EXPIRES (2)" */
    private static void untilItself() {
        DiskBudgets x = Checks.disk("disk 64 seek 64 rate 1;idle 3;near 0;" + A + B);
        x.ask(0, 0, 1);
        x.ask(1, 40, 1);
        x.ticks(4);
        C.same("until", x.has(7), 4);
        C.same("below: nothing comes, though b lies", x.has(4), 0);
        C.same("not busy", x.has(5), 0);
        x.ticks(1);
        C.same("at it", x.kept(0, 0), 4);
        C.same("how", x.kept(0, 2), PAUSED);
        C.same("b goes in the same tick", x.has(4), 1);
        C.same("began", x.has(6), 4);
    }

    /** idle 0: UNTIL is the TICK, and it expires in it. */
    private static void untilWithoutIdle() {
        for (int idle = 0; idle <= 20; idle += 1) {
            DiskBudgets x = Checks.disk("disk 64 seek 64 rate 1;idle " + idle + ";" + A);
            x.ask(0, 0, 1);
            x.ticks(1 + idle);
            C.same("active, by " + idle, x.has(4), 0);
            x.ticks(1);
            C.same("none active, by " + idle, x.has(4), -1);
            C.same("kept, by " + idle, x.kept(0, 0), 1 + idle);
        }
    }

    // ---- whose turn it is

    /** "the one of least FINISH, of like ones the first" */
    private static void likeFinishes() {
        for (int[] w : new int[][] {{5, 5, 5, 0}, {5, 6, 5, 1}, {5, 6, 6, 1}, {5, 5, 6, 2}, {6, 5, 6, 0}}) {
            DiskBudgets x = Checks.disk("disk 64 seek 64 rate 1;process a weight " + w[0] + REST + "process b weight " + w[1] + REST + "process e weight " + w[2] + REST);
            for (int p = 2; p >= 0; p--) x.ask(p, 10 * p, 1);
            x.ticks(1);
            C.same("first by " + w[0] + " " + w[1] + " " + w[2], x.has(4), w[3]);
        }
    }

    /** "of those whose START is NOW at most": b's START is NOW, and its FINISH is less than a's. */
    private static void startAtMostNow() {
        DiskBudgets x = Checks.disk("disk 64 seek 64 rate 1;idle 4;near 0;" + A + "process b weight 100" + REST + "process e weight 2" + REST);
        x.ask(2, 0, 4);
        x.ticks(1);
        x.ask(0, 40, 1);
        x.ticks(4);
        float now = 0f + 4f / 3f;
        C.same("now", x.bits(0), Checks.bits(now));
        C.same("e is waited for", x.has(7), 8);
        x.ask(1, 50, 1);
        C.same("start is now", x.queue(1, 10), Checks.bits(now));
        C.same("finish", x.queue(1, 11), Checks.bits(now + 36f / 100f));
        C.same("finish of a", x.queue(0, 11), Checks.bits(36f));
        x.ticks(4);
        C.same("b", x.has(4), 1);
        C.same("now stays", x.bits(0), Checks.bits(now));
    }

    /** .. one whose START is above NOW is passed by, though its FINISH is least. */
    private static void startAboveNow() {
        DiskBudgets x = Checks.disk("disk 999 seek 500 rate 64;idle 0;near 0;budget 8 to 8;" + A + "process b weight 100" + REST);
        x.ask(0, 0, 64);
        x.ask(1, 500, 64);
        x.ask(1, 600, 64);
        x.ticks(1);
        C.same("b first", x.has(4), 1);
        x.ticks(2);
        C.same("start of b", x.queue(1, 10), Checks.bits(0.64f));
        C.same("now", x.bits(0), Checks.bits(64f / 101f));
        C.same("finish of b", x.queue(1, 11), Checks.bits(0.64f + 0.08f));
        C.same("a", x.has(4), 0);
    }

    /** "if START of none of these is NOW at most, NOW is the least START of them" */
    private static void leastStartOfThem() {
        DiskBudgets x = Checks.disk("disk 64 seek 64 rate 64;idle 0;near 0;budget 8 to 8;" + A + "process b weight 2" + REST + "process e weight 100" + REST);
        x.ask(0, 0, 2);
        x.ask(0, 2, 7);
        x.ask(1, 20, 6);
        x.ask(1, 26, 3);
        x.ask(2, 40, 8);
        x.ask(2, 48, 8);
        x.ask(2, 56, 8);
        int[] turns = {2, 1, 2, 2, 0};
        while (x.has(11) < 5) x.ticks(1);
        for (int k = 0; k < 5; k++) C.same("turn " + k, x.kept(k, 1), turns[k]);
        C.same("start of a", x.queue(0, 10), Checks.bits(2f));
        C.same("finish of a", x.queue(0, 11), Checks.bits(10f));
        C.same("start of b", x.queue(1, 10), Checks.bits(3f));
        C.same("finish of b is less", x.queue(1, 11), Checks.bits(7f));
        C.same("now leapt to the least", x.bits(0), Checks.bits(2f));
        C.same("a, by its start", x.has(4), 0);
    }

    /** "BACKLOGGED are QUEUES in which requests lie that are not ACTIVE" */
    private static void backloggedOrActive() {
        DiskBudgets x = Checks.disk("disk 64 seek 64 rate 1;near 0;" + A + B);
        C.same("none lies", x.queue(0, 9), 0);
        x.ask(0, 0, 9);
        x.ask(0, 9, 9);
        x.ask(1, 40, 1);
        C.same("lie, not active", x.queue(0, 9), 1);
        x.ticks(1);
        C.same("active", x.queue(0, 9), 0);
        C.same("though one lies", x.queue(0, 0), 1);
        C.same("b", x.queue(1, 9), 1);
    }

    // ---- which one is next, and its way

    /** "NEXT is that of the least first SECTOR not below HEAD, if there is none, of the least" */
    private static void nextNotBelowHead() {
        for (int[] s : new int[][] {{31, 29, 30, 2}, {31, 29, 28, 0}, {29, 31, 32, 1}, {29, 28, 27, 2}, {0, 29, 30, 2}, {29, 0, 28, 1}, {63, 0, 29, 0}}) {
            DiskBudgets x = Checks.disk("disk 64 seek 64 rate 64;idle 0;" + A);
            x.ask(0, 20, 10);
            x.ticks(5);
            C.same("head", x.has(3), 30);
            C.same("none lies", x.next(0), -1);
            for (int k = 0; k < 3; k++) x.ask(0, s[k], 1);
            C.same("next of " + s[0] + " " + s[1] + " " + s[2], x.next(0), s[3]);
            x.ticks(1);
            C.same("it goes", x.request(-1, 0, 0), s[s[3]]);
        }
    }

    /** "of like ones the first that came" */
    private static void nextOfLikeOnes() {
        DiskBudgets x = Checks.disk("disk 64 seek 64 rate 64;idle 0;" + A);
        x.ask(0, 40, 1);
        x.ask(0, 10, 5);
        x.ask(0, 10, 6);
        x.ask(0, 10, 4);
        C.same("up", x.next(0), 1);
        x.ticks(1);
        C.same("the first", x.request(-1, 0, 1), 5);
        x.ticks(2);
        C.same("head", x.has(3), 15);
        C.same("up from 15", x.request(-1, 0, 0), 40);
        C.same("none above: the least, the first", x.next(0), 0);
        C.same("of 6", x.request(0, 0, 1), 6);
    }

    /** "LEFT is the way from HEAD to its first SECTOR by seek .., each to the next whole number up" */
    private static void wayByWholeSeeks() {
        for (int[] s : new int[][] {{0, 0}, {1, 1}, {99, 1}, {100, 1}, {101, 2}, {200, 2}, {201, 3}, {999, 10}}) {
            DiskBudgets x = Checks.disk("disk 1000 seek 100 rate 64;" + A);
            x.ask(0, s[0], 1);
            x.ticks(1);
            C.same("up to " + s[0], x.has(5), s[1] + 1);
        }
        for (int[] s : new int[][] {{500, 0}, {499, 1}, {400, 1}, {399, 2}, {0, 5}, {600, 1}, {601, 2}}) {
            DiskBudgets x = Checks.disk("disk 1000 seek 100 rate 64;idle 0;" + A);
            x.ask(0, 499, 1);
            x.ticks(20);
            C.same("head", x.has(3), 500);
            x.ask(0, s[0], 1);
            x.ticks(1);
            C.same("from 500 to " + s[0], x.has(5), s[1] + 1);
        }
        DiskBudgets slow = Checks.disk("disk 9999 seek 1 rate 64;" + A);
        slow.ask(0, 9998, 1);
        slow.ticks(1);
        C.same("the longest way", slow.has(5), 9999);
        DiskBudgets fast = Checks.disk("disk 9999 seek 500 rate 64;" + A);
        fast.ask(0, 9998, 1);
        fast.ticks(1);
        C.same("by 500", fast.has(5), 21);
    }

    /** ".. and its SECTORS by rate, each to the next whole number up, together" */
    private static void sectorsByWholeRates() {
        for (int[] s : new int[][] {{1, 1}, {7, 1}, {8, 1}, {9, 2}, {16, 2}, {17, 3}, {64, 8}}) {
            DiskBudgets x = Checks.disk("disk 1000 seek 100 rate 8;" + A);
            x.ask(0, 0, s[0]);
            x.ticks(1);
            C.same("sectors " + s[0], x.has(5), s[1]);
            DiskBudgets y = Checks.disk("disk 1000 seek 100 rate 8;" + A);
            y.ask(0, 150, s[0]);
            y.ticks(1);
            C.same("each up, then together: " + s[0], y.has(5), 2 + s[1]);
        }
        for (int[] s : new int[][] {{1, 64, 64}, {64, 64, 1}, {63, 64, 2}, {64, 1, 1}}) {
            DiskBudgets x = Checks.disk("disk 64 seek 100 rate " + s[0] + ";" + A);
            x.ask(0, 0, s[1]);
            x.ticks(1);
            C.same(s[1] + " by " + s[0], x.has(5), s[2]);
        }
    }

    /** "HEAD is behind it": behind the last sector, too. */
    private static void headBehindTheLastSector() {
        DiskBudgets x = Checks.disk("disk 64 seek 64 rate 64;idle 0;" + A);
        x.ask(0, 63, 1);
        x.ticks(4);
        C.same("head", x.has(3), 64);
        x.ask(0, 63, 1);
        x.ask(0, 5, 1);
        C.same("none is above", x.next(0), 1);
    }

    // ---- what is done

    /** "so many by the WEIGHTS of all that are ACTIVE or BACKLOGGED together" */
    private static void nowByTheWeightsTogether() {
        DiskBudgets x = Checks.disk("disk 64 seek 64 rate 1;idle 0;near 0;process a weight 7" + REST + "process b weight 3" + REST + "process e weight 100" + REST);
        x.ask(0, 0, 4);
        x.ticks(4);
        x.ask(1, 40, 5);
        x.ticks(1);
        C.same("a and b", x.bits(0), Checks.bits(0f + 4f / 10f));
        x.ticks(6);
        C.same("b is done", x.process(1, 9), 1);
        C.same("b alone", x.bits(0), Checks.bits(0.4f + 5f / 3f));
        // One that is merged counts by the queue alone.
        DiskBudgets y = Checks.disk("disk 64 seek 64 rate 1;idle 0;near 5;process a weight 7" + REST + "process b weight 3" + REST);
        y.ask(0, 0, 4);
        y.ticks(1);
        C.same("merged", y.ask(1, 4, 1), 0);
        y.ticks(4);
        C.same("by 7", y.bits(0), Checks.bits(4f / 7f));
        y.ticks(1);
        C.same("by 7 again", y.bits(0), Checks.bits(4f / 7f + 1f / 7f));
    }

    /** WEIGHT is the raised one while the TICK is below RAISED, at the tick in which it is done. */
    private static void nowByRaisedWeights() {
        for (int last = 3; last <= 6; last++) {
            DiskBudgets x = Checks.disk("disk 64 seek 64 rate 1;idle 0;raise 3 for " + last + " rest 1;process a weight 2" + REST);
            x.ticks(1);
            x.ask(0, 0, 4);
            C.same("raised", x.queue(0, 7), 1 + last);
            x.ticks(5);
            C.same("done at 5", x.queue(0, 6), 5);
            C.same("now", x.bits(0), Checks.bits(5 < 1 + last ? 4f / 6f : 2f));
            C.same("start", x.queue(0, 10), Checks.bits(5 < 1 + last ? 4f / 6f : 2f));
        }
    }

    /** "All quotients, sums, products that are told as FLOATS are so (32 bits, each rounded by itself)" */
    private static void nowRoundedEachTime() {
        DiskBudgets x = Checks.disk("disk 64 seek 64 rate 1;idle 20;budget 999 to 999;slice 200;process a weight 7 from 0 does on take 1 think 0;");
        float now = 0f;
        for (int i = 0; i < 60; i++) {
            x.ticks(1);
            if (i == 0) continue;
            now = now + 1f / 7f;
            C.same("now behind " + i, x.bits(0), Checks.bits(now));
        }
        C.same("not the same as at once", x.bits(0) == Checks.bits(59f / 7f), false);
    }

    /** MEAN is told so, too: by and by it is not what it were if it were rounded at the end of each sum alone. */
    private static void meanRoundedEachTime() {
        DiskBudgets x = Checks.disk("disk 64 seek 64 rate 1;idle 20;process a weight 1 from 0 does on take 1 think 10;");
        float mean = 0f;
        float other = 0f;
        boolean unlike = false;
        for (int i = 0; i < 20; i++) {
            // Asked at 0, 11, 22, ..: each is done in one tick, and 10 behind that it asks again.
            x.ticks(i == 0 ? 12 : 11);
            mean = mean * 0.875f + 10f * 0.125f;
            other = (float) ((double) other * 0.875 + 10.0 * 0.125);
            unlike |= mean != other;
            C.same("mean behind " + i, x.queue(0, 12), Checks.bits(mean));
        }
        C.same("it is another", unlike, true);
    }

    /** "if it was ASKED by a STEP, and it is no stream, it WAITS no more and THINKS as that STEP tells" */
    private static void doneByHandWaitsOn() {
        DiskBudgets x = Checks.disk("disk 64 seek 64 rate 1;process a weight 1 from 0 does at 40 take 1 think 5;");
        x.ask(0, 0, 1);
        x.ticks(2);
        C.same("that by hand is done", x.process(0, 9), 1);
        C.same("it waits on", x.process(0, 2), 1);
        C.same("one out", x.process(0, 5), 1);
        x.ticks(2);
        C.same("that of the step is done", x.process(0, 9), 2);
        C.same("it waits no more", x.process(0, 2), 0);
        C.same("it thinks, one less already", x.process(0, 1), 4);
        DiskBudgets y = Checks.disk("disk 64 seek 64 rate 1;process a weight 1 from 9 does at 40 take 1 think 5;");
        y.ask(0, 0, 1);
        y.ticks(3);
        C.same("by hand, done", y.process(0, 9), 1);
        C.same("thinks as it did", y.process(0, 1), 6);
    }

    /** .. of a stream nothing of that changes when one is done. */
    private static void doneOfAStreamThinksOn() {
        DiskBudgets x = Checks.disk("disk 64 seek 64 rate 1;stream s weight 1 from 0 does on take 2 think 9;");
        x.ticks(3);
        C.same("done", x.process(0, 9), 1);
        C.same("9, two less", x.process(0, 1), 7);
        C.same("waits", x.process(0, 2), 0);
    }

    /** "its LATENCY (the TICK less that at which it was ASKED) counts" */
    private static void latenciesCount() {
        DiskBudgets x = Checks.disk("disk 64 seek 64 rate 1;idle 0;" + A);
        x.ticks(3);
        C.same("the greatest without", x.process(0, 12), 0);
        C.same("mean without", x.mean(0), -1);
        x.ask(0, 0, 1);
        x.ticks(2);
        C.same("the least there can be", x.process(0, 11), 1);
        x.ask(0, 1, 5);
        x.ask(0, 6, 1);
        x.ticks(9);
        C.same("1, 5 and 6 or so", x.process(0, 11), 1 + 5 + 6);
        C.same("the greatest", x.process(0, 12), 6);
        C.same("requests", x.process(0, 9), 3);
        C.same("sectors", x.process(0, 10), 7);
        C.same("mean", x.mean(0), Double.doubleToLongBits(12.0 / 3.0));
        x.ask(0, 7, 1);
        x.ticks(9);
        C.same("the greatest stays", x.process(0, 12), 6);
        C.same("mean", x.mean(0), Double.doubleToLongBits(13.0 / 4.0));
    }

    /** "and idle more, if it is no stream, not SEEKY, and MEAN is idle at most" */
    private static void meanIsIdleAtMost() {
        for (int think = 7; think <= 9; think++) {
            DiskBudgets x = Checks.disk("disk 64 seek 64 rate 1;idle 1;process a weight 1 from 0 does on take 1 think " + think + ";");
            x.ticks(think + 2);
            C.same("mean by " + think, x.queue(0, 12), Checks.bits(think * 0.125f));
            x.ticks(1);
            C.same("done", x.process(0, 9), 2);
            C.same("waits by " + think, x.has(4), think <= 8 ? 0 : -1);
            C.same("until by " + think, x.has(7), think <= 8 ? think + 3 : -1);
            C.same("kept by " + think, x.has(11), think <= 8 ? 1 : 2);
        }
        // idle 0 and a MEAN of 0: it is at most, but no tick more.
        DiskBudgets y = Checks.disk("disk 64 seek 64 rate 1;idle 0;" + A);
        y.ask(0, 0, 1);
        y.ticks(2);
        C.same("no tick more", y.kept(0, 0), 1);
    }

    private static void idleForNoStream() {
        DiskBudgets x = Checks.disk("disk 64 seek 64 rate 1;idle 20;near 0;stream s weight 1" + REST + A);
        x.ask(0, 0, 1);
        x.ticks(2);
        C.same("a stream", x.has(4), -1);
        C.same("kept at once", x.kept(0, 0), 1);
        C.same("how", x.kept(0, 2), PAUSED);
        x.ask(1, 40, 1);
        x.ticks(4);
        C.same("a process", x.has(4), 1);
    }

    /** "If none lies in the ACTIVE one then, UNTIL is the TICK": has(7) is NONE while one does. */
    private static void untilOnlyIfNoneLies() {
        DiskBudgets x = Checks.disk("disk 64 seek 64 rate 1;idle 5;" + A);
        x.ask(0, 0, 1);
        x.ask(0, 1, 1);
        x.ticks(2);
        C.same("the second goes", x.has(7), -1);
        C.same("began", x.has(6), 0);
        x.ticks(1);
        C.same("until", x.has(7), 7);
        x.ask(0, 2, 1);
        C.same("one lies", x.has(7), -1);
        x.ticks(1);
        C.same("busy", x.has(7), -1);
        x.ticks(1);
        C.same("until anew", x.has(7), 9);
    }

    /** Another number idle counts from the next one that is done on: UNTIL stays. */
    private static void idleWithNothingToWait() {
        DiskBudgets x = Checks.disk("disk 64 seek 64 rate 1;idle 5;" + A);
        x.ask(0, 0, 1);
        x.ticks(2);
        C.same("until", x.has(7), 6);
        x.idle(0);
        C.same("until stays", x.has(7), 6);
        x.ticks(4);
        C.same("active below it", x.has(4), 0);
        x.ticks(1);
        C.same("kept", x.kept(0, 0), 6);
    }

    // ---- what expires

    /** By a first one that expires behind some ticks: the rate is then known. */
    private static DiskBudgets expired(String text, int many, int ticks) {
        DiskBudgets x = Checks.disk("disk 64 seek 64 " + text + A);
        x.ask(0, 0, many);
        x.ticks(ticks + 1);
        C.same("expired: " + text, x.kept(0, 0), ticks);
        C.same("served: " + text, x.kept(0, 3), many);
        return x;
    }

    /** "TOP is RATE times slice as a FLOAT, cut, not below LEAST, not above MOST" */
    private static void topWithinLeastAndMost() {
        C.same("3 is below 5", expired("rate 1;idle 0;slice 3;budget 5 to 9;", 1, 1).has(10), 5);
        C.same("4", expired("rate 1;idle 0;slice 4;budget 5 to 9;", 1, 1).has(10), 5);
        C.same("5", expired("rate 1;idle 0;slice 5;budget 5 to 9;", 1, 1).has(10), 5);
        C.same("6", expired("rate 1;idle 0;slice 6;budget 5 to 9;", 1, 1).has(10), 6);
        C.same("8", expired("rate 1;idle 0;slice 8;budget 5 to 9;", 1, 1).has(10), 8);
        C.same("9", expired("rate 1;idle 0;slice 9;budget 5 to 9;", 1, 1).has(10), 9);
        C.same("10 is above 9", expired("rate 1;idle 0;slice 10;budget 5 to 9;", 1, 1).has(10), 9);
        C.same("200 is above 9", expired("rate 1;idle 0;slice 200;budget 5 to 9;", 1, 1).has(10), 9);
        C.same("200 times 64", expired("rate 64;idle 0;slice 200;budget 1 to 999;", 64, 1).has(10), 999);
    }

    private static void topIsCut() {
        // 2 sectors in 5 ticks: 0.875 and 0.05
        float rate = 1f * 0.875f + 2f / 5f * 0.125f;
        for (int slice = 1; slice <= 200; slice += 7) {
            DiskBudgets x = expired("rate 1;idle 3;slice " + slice + ";budget 1 to 999;", 2, 5);
            C.same("rate", x.bits(1), Checks.bits(rate));
            C.same("top by " + slice, x.has(10), Math.max(1, (int) (rate * (float) slice)));
        }
    }

    /** "RATE times slice as a FLOAT, cut": the product is rounded up to a whole number where, not rounded, it were just below. */
    private static void topAsAFloat() {
        for (int slice = 10; slice <= 100; slice += 10) {
            DiskBudgets x = expired("rate 1;idle 4;budget 1 to 999;slice " + slice + ";", 1, 5);
            C.same("rate: 0.875 and 0.025", x.bits(1), Checks.bits(0.875f + 1f / 5f * 0.125f));
            C.same("top by " + slice, x.has(10), slice / 10 * 9);
            C.same("else it were less", (int) ((double) (0.875f + 0.025f) * slice), slice / 10 * 9 - 1);
        }
    }

    /** "RATE is RATE times 0.875 and SERVED by the TICK less BEGAN times 0.125, FLOATS (the quotient first)" */
    private static void rateIsLearnt() {
        DiskBudgets x = Checks.disk("disk 999 seek 7 rate 3;idle 0;process a weight 1 from 0 does at 5 take 7 think 2,at 200 take 11 think 1;");
        float rate = 3f;
        for (int k = 0; k < 12; k++) {
            x.ticks(x.expiry(0, 0));
            // It begins at 0, or behind its think.
            int ticks = k == 0 ? x.kept(0, 0) : x.kept(k, 0) - x.kept(k - 1, 0) - (k % 2 == 1 ? 2 : 1);
            rate = rate * 0.875f + (float) x.kept(k, 3) / (float) ticks * 0.125f;
            C.same("rate behind " + k, x.bits(1), Checks.bits(rate));
        }
    }

    /** The TICK less BEGAN is 1 at the least. */
    private static void rateOfOneTick() {
        for (int many : new int[] {1, 32, 64}) {
            DiskBudgets x = expired("rate 64;idle 0;slice 3;budget 1 to 999;", many, 1);
            float rate = 64f * 0.875f + (float) many / 1f * 0.125f;
            C.same("rate by " + many, x.bits(1), Checks.bits(rate));
            C.same("top by " + many, x.has(10), (int) (rate * 3f));
        }
    }

    /** "(32 bits ..)": a MEAN that sinks goes through the smallest floats to 0, or stays at the least of them. */
    private static void meansBelowAllNormalFloats() {
        DiskBudgets x = Checks.disk("disk 64 seek 64 rate 64;budget 999 to 999;slice 200;process a weight 1 from 0 does at 0 take 1 think 0;");
        x.ticks(1);
        x.on(0, false);
        x.ticks(5);
        x.on(0, true);
        x.ticks(1);
        float mean = 5f * 0.125f;
        boolean tiny = false;
        for (int i = 0; i < 200; i++) {
            x.ticks(10);
            for (int k = 0; k < 5; k++) mean = mean * 0.875f + 0f * 0.125f;
            C.same("mean behind " + 5 * i, x.queue(0, 12), Checks.bits(mean));
            tiny |= mean > 0f && mean < Float.MIN_NORMAL;
        }
        C.same("below the normal ones", tiny, true);
    }

    /** "BUDGET: by 0 twice it" */
    private static void twiceTheBudget() {
        DiskBudgets x = Checks.disk("disk 64 seek 64 rate 64;idle 0;slice 200;budget 1 to 40;" + A);
        C.same("at first", x.queue(0, 1), 20);
        x.ask(0, 0, 1);
        x.ticks(3);
        C.same("by 2: half", x.queue(0, 1), 10);
        x.ask(0, 1, 10);
        x.ask(0, 11, 1);
        x.ticks(2);
        C.same("spent", x.kept(1, 2), SPENT);
        C.same("by 0: twice", x.queue(0, 1), 20);
        x.ask(0, 12, 20);
        x.ticks(1);
        C.same("spent", x.kept(2, 2), SPENT);
        C.same("by 0: twice, as much as MOST", x.queue(0, 1), 40);
        x.ask(0, 32, 28);
        x.ticks(1);
        C.same("spent", x.kept(3, 2), SPENT);
        C.same("by 0: not above MOST", x.queue(0, 1), 40);
    }

    /** "by 1 SERVED" */
    private static void servedAsBudget() {
        for (int[] s : new int[][] {{9, 10}, {10, 10}, {11, 11}, {15, 15}, {16, 16}}) {
            DiskBudgets x = Checks.disk("disk 64 seek 64 rate 8;idle 0;slice 2;budget 10 to 60;" + A);
            C.same("at first", x.queue(0, 1), 35);
            x.ask(0, 0, s[0]);
            x.ask(0, s[0], 1);
            x.ticks(3);
            C.same("by its slice", x.kept(0, 2), SLICED);
            int top = (int) ((8f * 0.875f + (float) s[0] / 2f * 0.125f) * 2f);
            C.same("top", x.has(10), top);
            C.same("budget of " + s[0], x.queue(0, 1), Math.min(top, s[1]));
        }
    }

    /** "by 2 half of it, cut, if that is more than SERVED, else SERVED" */
    private static void halfTheBudget() {
        for (int[] s : new int[][] {{1, 10}, {9, 10}, {10, 10}, {11, 11}, {20, 20}, {39, 39}}) {
            DiskBudgets x = expired("rate 64;idle 0;slice 200;budget 1 to 39;", s[0], 1);
            C.same("how", x.kept(0, 2), PAUSED);
            C.same("budget of " + s[0], x.queue(0, 1), s[1]);
        }
    }

    private static void halfCut() {
        C.same("half of 21", expired("rate 64;idle 0;slice 200;budget 1 to 41;", 1, 1).queue(0, 1), 10);
        C.same("half of 21, 10 served", expired("rate 64;idle 0;slice 200;budget 1 to 41;", 10, 1).queue(0, 1), 10);
        C.same("half of 21, 11 served", expired("rate 64;idle 0;slice 200;budget 1 to 41;", 11, 1).queue(0, 1), 11);
        C.same("half of 1, 1 served", expired("rate 64;idle 0;slice 200;budget 1 to 1;", 1, 1).queue(0, 1), 1);
    }

    /** "then not below LEAST" */
    private static void notBelowLeast() {
        C.same("half of 20 is 10", expired("rate 64;idle 0;slice 200;budget 10 to 30;", 1, 1).queue(0, 1), 10);
        C.same("half of 20 is 10, below 11", expired("rate 64;idle 0;slice 200;budget 11 to 29;", 1, 1).queue(0, 1), 11);
        C.same("half of 20 is 10, above 9", expired("rate 64;idle 0;slice 200;budget 9 to 31;", 1, 1).queue(0, 1), 10);
        C.same("LEAST is MOST", expired("rate 64;idle 0;slice 200;budget 20 to 20;", 1, 1).queue(0, 1), 20);
    }

    /** "not above TOP" */
    private static void notAboveTop() {
        C.same("64 served, MOST 39", expired("rate 64;idle 0;slice 200;budget 1 to 39;", 64, 1).queue(0, 1), 39);
        DiskBudgets x = expired("rate 1;idle 0;slice 6;budget 1 to 99;", 8, 8);
        C.same("top", x.has(10), 6);
        C.same("half of 50 is above 6", x.queue(0, 1), 6);
        // TOP is LEAST at the least, and so is BUDGET.
        DiskBudgets y = expired("rate 1;idle 0;slice 1;budget 30 to 99;", 8, 8);
        C.same("top", y.has(10), 30);
        C.same("budget", y.queue(0, 1), 30);
    }

    /** "START is START and SERVED by WEIGHT, FLOATS" */
    private static void startGoesByWeight() {
        DiskBudgets x = Checks.disk("disk 64 seek 64 rate 64;idle 0;budget 8 to 8;process a weight 7" + REST);
        x.ask(0, 0, 8);
        x.ask(0, 8, 5);
        x.ticks(2);
        float start = 0f + 8f / 7f;
        C.same("start", x.queue(0, 10), Checks.bits(start));
        x.weight(0, 3);
        x.ticks(1);
        C.same("by the weight that it has then", x.queue(0, 10), Checks.bits(start + 5f / 3f));
    }

    /** "FINISH is START and BUDGET (the new one) by WEIGHT, FLOATS, if requests lie in it, else START" */
    private static void finishIfRequestsLie() {
        DiskBudgets x = Checks.disk("disk 64 seek 64 rate 64;idle 0;slice 200;budget 1 to 40;process a weight 7" + REST);
        x.ask(0, 0, 20);
        x.ask(0, 20, 5);
        x.ticks(2);
        C.same("spent", x.kept(0, 2), SPENT);
        float start = 0f + 20f / 7f;
        C.same("start", x.queue(0, 10), Checks.bits(start));
        C.same("one lies: by the new budget, 40", x.queue(0, 11), Checks.bits(start + 40f / 7f));
        x.ticks(1);
        C.same("paused", x.kept(1, 2), PAUSED);
        C.same("none lies", x.queue(0, 11), Checks.bits(start + 5f / 7f));
        C.same("none lies: start", x.queue(0, 11), x.queue(0, 10));
    }

    /** "KEPT is each: TICK, QUEUE, how, SERVED (the last 40 are told)" */
    private static void lastFortyKept() {
        DiskBudgets x = Checks.disk("disk 64 seek 64 rate 64;idle 0;process a weight 1 from 0 does at 5 take 1 think 1;");
        // Asked at 0, 3, 6, ..: done and kept two ticks later.
        int[] counts = {0, 1, 39, 40, 40, 40};
        int[] ends = {2, 3, 117, 120, 123, 126};
        for (int i = 0; i < ends.length; i++) {
            while (x.has(2) < ends[i]) x.ticks(1);
            C.same("told at " + ends[i], x.has(11), counts[i]);
            C.same("none behind", x.kept(counts[i], 0), -1);
            C.same("the newest", x.kept(counts[i] - 1, 0), counts[i] == 0 ? -1 : ends[i] - 1);
            C.same("the oldest", x.kept(0, 0), counts[i] == 0 ? -1 : ends[i] - 1 - 3 * (counts[i] - 1));
        }
        for (int k = 0; k < 40; k++) {
            C.same("queue " + k, x.kept(k, 1), 0);
            C.same("how " + k, x.kept(k, 2), PAUSED);
            C.same("served " + k, x.kept(k, 3), 1);
            C.same("tick " + k, x.kept(k, 0), 125 - 3 * (39 - k));
        }
    }
}
