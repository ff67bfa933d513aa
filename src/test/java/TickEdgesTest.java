/** The edges of II, a TICK: asking, choosing, going, what is done and what expires; both sides of each. */
public final class TickEdgesTest {
    private static final Checks C = new Checks();
    /** Behind a name and a weight: none of these asks by itself in a short run. */
    private static final String REST = " from 999 does on take 1 think 0;";
    private static final String A = "process a weight 1" + REST;
    private static final String B = "process b weight 1" + REST;
    private static final String E = "process e weight 1" + REST;

    public static void main(String[] args) {
        atFirst();
        budgetAtFirstCut();
        leftToNothing();
        thinksAndAsks();
        doneAheadOfAsking();
        waitsForOne();
        notOn();
        byNumbers();
        streamsUpToFour();
        streamAboveFour();
        streamThinks();
        choosesIfNotBusy();
        nextStepGoesRound();
        placeToTheLastSector();
        mergesNear();
        mergesWithNearNothing();
        mergesIntoAnotherActive();
        noStreamMerges();
        missesOfThree();
        missesBothWays();
        partsAndIsNotMergedNow();
        farBothWays();
        latestEightJumps();
        seekyFromFive();
        meanOnlyIfNoneIsOut();
        meanOfNothingDoneYet();
        meanOfAStream();
        meanOfTheQueueMergedInto();
        greaterOfNowAndFinish();
        startStaysWhileActive();
        startStaysWhileBacklogged();
        restOfNothingDoneYet();
        restSinceLatest();
        restOnlyIfItWakes();
        raisedForNoTick();
        weightBelowRaised();
        theMostRaised();
        C.close();
    }

    // ---- at first

    /** "A PROCESS is ON (all are at first); THINKS (from at first); PLACE 0, next STEP 0"; a QUEUE "0 at first", "none at first" */
    private static void atFirst() {
        DiskBudgets x = Checks.disk("disk 64 seek 9 rate 7;process a weight 5 from 3 does on take 1 think 9,on take 2 think 8;stream b weight 6 from 0 does on take 1 think 1;");
        int[] a = {5, 3, 0, 0, 0, 0, 0, 0, 1, 0, 0, 0, 0};
        for (int w = 0; w < a.length; w++) C.same("process a " + w, x.process(0, w), a[w]);
        int[] b = {6, 0, 0, 0, 0, 0, 1, 0, 1, 0, 0, 0, 0};
        for (int w = 0; w < b.length; w++) C.same("stream b " + w, x.process(1, w), b[w]);
        int[] q = {0, 36, 0, 0, 0, 0, 0, 0, 5, 0, 0, 0, 0};
        for (int w = 0; w < q.length; w++) C.same("queue a " + w, x.queue(0, w), q[w]);
        int[] has = {64, 2, 0, 0, -1, 0, -1, -1, 4, 40, 64, 0, 0, 0, 1};
        for (int w = 0; w < has.length; w++) C.same("has " + w, x.has(w), has[w]);
        C.same("now", x.bits(0), 0);
        C.same("rate", x.bits(1), Checks.bits(7f));
    }

    /** "BUDGET (LEAST and MOST together by 2, cut, at first)" */
    private static void budgetAtFirstCut() {
        int[][] all = {{1, 1, 1}, {1, 2, 1}, {1, 3, 2}, {2, 3, 2}, {998, 999, 998}, {999, 999, 999}, {1, 999, 500}, {8, 64, 36}};
        for (int[] n : all) {
            DiskBudgets x = Checks.disk("disk 64 seek 1 rate 1;budget " + n[0] + " to " + n[1] + ";" + A);
            C.same("budget " + n[0] + " to " + n[1], x.queue(0, 1), n[2]);
            C.same("top " + n[0] + " to " + n[1], x.has(10), n[1]);
        }
    }

    // ---- a tick

    /** "(a) is it BUSY: of what is LEFT there is one less; at 0 the request is DONE" */
    private static void leftToNothing() {
        DiskBudgets x = Checks.disk("disk 64 seek 64 rate 1;process a weight 1 from 0 does on take 2 think 9;");
        x.ticks(1);
        C.same("two left", x.has(5), 2);
        C.same("not done", x.process(0, 9), 0);
        x.ticks(1);
        C.same("one left", x.has(5), 1);
        C.same("not done", x.process(0, 9), 0);
        C.same("still busy", x.request(-1, 0, 1), 2);
        C.same("head", x.has(3), 0);
        x.ticks(1);
        C.same("none left", x.has(5), 0);
        C.same("done", x.process(0, 9), 1);
        C.same("not busy", x.request(-1, 0, 1), -1);
        C.same("head behind it", x.has(3), 2);
    }

    /** "(b) .. with THINKS above 0 that is one less; with 0 it ASKS" */
    private static void thinksAndAsks() {
        DiskBudgets x = Checks.disk("disk 64 seek 64 rate 1;process a weight 1 from 0 does on take 1 think 9;process b weight 1 from 1 does at 40 take 1 think 9;process e weight 1 from 2 does at 50 take 1 think 9;");
        x.ticks(1);
        C.same("a asked", x.process(0, 5), 1);
        C.same("b has not", x.process(1, 5), 0);
        C.same("b thinks 0", x.process(1, 1), 0);
        C.same("e thinks 1", x.process(2, 1), 1);
        x.ticks(1);
        C.same("b asked", x.request(1, 0, 3), 1);
        C.same("e has not", x.process(2, 5), 0);
        x.ticks(1);
        C.same("e asked", x.request(2, 0, 3), 2);
    }

    /** (a) goes ahead of (b): with think 0 it asks in the tick in which it is done, with 1 in the next. */
    private static void doneAheadOfAsking() {
        DiskBudgets x = Checks.disk("disk 64 seek 64 rate 1;process a weight 1 from 0 does on take 1 think 0;");
        x.ticks(2);
        C.same("done", x.process(0, 9), 1);
        C.same("asked at 1", x.request(-1, 0, 3), 1);
        C.same("waits", x.process(0, 2), 1);
        DiskBudgets y = Checks.disk("disk 64 seek 64 rate 1;process a weight 1 from 0 does on take 1 think 1;");
        y.ticks(2);
        C.same("done", y.process(0, 9), 1);
        C.same("not asked", y.process(0, 5), 0);
        C.same("waits no more", y.process(0, 2), 0);
        C.same("thinks one less already", y.process(0, 1), 0);
        y.ticks(1);
        C.same("asked at 2", y.request(-1, 0, 3), 2);
    }

    /** "unless one WAITS": it asks once, until that is done. */
    private static void waitsForOne() {
        DiskBudgets x = Checks.disk("disk 64 seek 64 rate 1;process a weight 1 from 0 does on take 9 think 0;");
        x.ticks(9);
        C.same("one out", x.process(0, 5), 1);
        C.same("waits", x.process(0, 2), 1);
        C.same("thinks 0 while it waits", x.process(0, 1), 0);
        C.same("none lies", x.queue(0, 0), 0);
        x.ticks(1);
        C.same("done", x.process(0, 9), 1);
        C.same("asked again", x.request(-1, 0, 3), 9);
    }

    /** "PROCESSES that are ON": one that is not neither thinks nor asks; what it asked for is done all the same. */
    private static void notOn() {
        DiskBudgets x = Checks.disk("disk 64 seek 64 rate 1;process a weight 1 from 1 does on take 2 think 5;");
        x.on(0, false);
        x.ticks(9);
        C.same("thinks stays", x.process(0, 1), 1);
        x.on(0, true);
        x.ticks(1);
        C.same("thinks", x.process(0, 1), 0);
        x.on(0, false);
        x.ticks(9);
        C.same("does not ask", x.process(0, 5), 0);
        x.on(0, true);
        x.ticks(1);
        C.same("asks", x.process(0, 5), 1);
        x.on(0, false);
        x.ticks(9);
        C.same("done", x.process(0, 9), 1);
        C.same("waits no more", x.process(0, 2), 0);
        C.same("thinks as the step tells, and no further", x.process(0, 1), 5);
    }

    /** "PROCESSES .., by numbers" */
    private static void byNumbers() {
        DiskBudgets x = Checks.disk("disk 1000 seek 500 rate 1;near 999;process a weight 1 from 0 does on take 50 think 9;"
                + "process b weight 1 from 1 does at 60 take 1 think 9;process e weight 1 from 1 does at 50 take 1 think 9;");
        x.ticks(2);
        C.same("b came first", x.request(0, 0, 2), 1);
        C.same("then e", x.request(0, 1, 2), 2);
        C.same("end is behind that of e", x.queue(0, 3), 51);
    }

    /** "a stream with OUT 4 or more doesn't" */
    private static void streamsUpToFour() {
        DiskBudgets x = Checks.disk("disk 64 seek 64 rate 1;stream s weight 1 from 0 does on take 60 think 0;");
        int[] out = {1, 2, 3, 4, 4, 4};
        for (int i = 0; i < out.length; i++) {
            x.ticks(1);
            C.same("out behind tick " + i, x.process(0, 5), out[i]);
        }
        x.ticks(54);
        C.same("none done", x.process(0, 9), 0);
        C.same("four", x.process(0, 5), 4);
        x.ticks(1);
        C.same("one done", x.process(0, 9), 1);
        C.same("asked in the same tick", x.process(0, 5), 4);
        C.same("asked at 60", x.request(0, 2, 3), 60);
    }

    /** By hand it may have more: then it asks again when 3 are left. */
    private static void streamAboveFour() {
        DiskBudgets x = Checks.disk("disk 64 seek 64 rate 1;stream s weight 1 from 0 does on take 60 think 0;");
        x.ticks(4);
        x.ask(0, 0, 1);
        C.same("five out", x.process(0, 5), 5);
        x.ticks(57);
        C.same("one done", x.process(0, 9), 1);
        C.same("four are too many", x.process(0, 5), 4);
        x.ticks(60);
        C.same("still four", x.process(0, 5), 4);
        C.same("one done", x.process(0, 9), 1);
        x.ticks(1);
        C.same("two done", x.process(0, 9), 2);
        C.same("three, and one asked", x.process(0, 5), 4);
        C.same("asked at 121", x.request(0, 2, 3), 121);
    }

    /** "its THINKS is that STEP's think then; others WAIT from then on" */
    private static void streamThinks() {
        DiskBudgets x = Checks.disk("disk 64 seek 64 rate 1;stream s weight 1 from 0 does on take 60 think 3,on take 1 think 0;");
        int[][] due = {{1, 3, 1}, {1, 2, 1}, {1, 1, 1}, {1, 0, 1}, {2, 0, 0}, {3, 3, 1}, {3, 2, 1}, {3, 1, 1}, {3, 0, 1}, {4, 0, 0},
            {4, 0, 0}, {4, 0, 0}};
        for (int i = 0; i < due.length; i++) {
            x.ticks(1);
            C.same("out behind tick " + i, x.process(0, 5), due[i][0]);
            C.same("thinks behind tick " + i, x.process(0, 1), due[i][1]);
            C.same("step behind tick " + i, x.process(0, 4), due[i][2]);
            C.same("waits never", x.process(0, 2), 0);
        }
    }

    /** "(c) If it is not BUSY, it CHOOSES": in the tick in which it was asked; while BUSY not. */
    private static void choosesIfNotBusy() {
        DiskBudgets x = Checks.disk("disk 64 seek 64 rate 1;slice 1;idle 0;near 0;process a weight 1" + REST + "process b weight 100" + REST);
        x.ask(0, 0, 5);
        C.same("not by asking alone", x.has(4), -1);
        C.same("it lies", x.queue(0, 0), 1);
        x.ticks(1);
        C.same("it goes", x.has(5), 5);
        x.ask(1, 40, 1);
        x.ticks(4);
        C.same("busy: a still, beyond its slice", x.has(4), 0);
        C.same("b lies", x.queue(1, 0), 1);
        x.ticks(1);
        C.same("b is active", x.has(4), 1);
        C.same("and goes", x.request(-1, 0, 0), 40);
    }

    /** "a next STEP (0 at first; behind the last one the first one)" */
    private static void nextStepGoesRound() {
        DiskBudgets x = Checks.disk("disk 64 seek 64 rate 64;process a weight 1 from 0 does at 0 take 1 think 0,at 1 take 2 think 0,at 3 take 3 think 0,"
                + "at 6 take 4 think 0,at 10 take 5 think 0,at 15 take 6 think 0;process b weight 1 from 0 does at 60 take 1 think 0;");
        C.same("step", x.process(0, 4), 0);
        for (int i = 0; i < 14; i++) {
            while (x.process(0, 9) + x.process(0, 5) < i + 1) x.ticks(1);
            C.same("step behind " + i, x.process(0, 4), (i + 1) % 6);
            int[] behind = {1, 3, 6, 10, 15, 21};
            C.same("place behind " + i, x.process(0, 3), behind[i % 6]);
            C.same("one step alone", x.process(1, 4), 0);
        }
    }

    /** "by on its PLACE, or 0, if that would go beyond the last SECTOR. PLACE is behind these." */
    private static void placeToTheLastSector() {
        DiskBudgets x = Checks.disk("disk 64 seek 64 rate 64;idle 0;process a weight 1 from 0 does on take 60 think 0,on take 4 think 0,on take 1 think 0;");
        int[][] due = {{1, 60}, {1, 64}, {1, 1}, {2, 61}, {1, 4}};
        for (int i = 0; i < due.length; i++) {
            x.ticks(due[i][0]);
            C.same("place " + i, x.process(0, 3), due[i][1]);
        }
        DiskBudgets y = Checks.disk("disk 64 seek 64 rate 64;process a weight 1 from 0 does on take 64 think 0;");
        y.ticks(1);
        C.same("all sectors", y.process(0, 3), 64);
        y.ticks(1);
        C.same("from 0 on again", y.request(-1, 0, 0), 0);
        DiskBudgets z = Checks.disk("disk 64 seek 64 rate 64;process a weight 1 from 0 does on take 4 think 0;");
        z.ask(0, 40, 20);
        C.same("place by hand", z.process(0, 3), 60);
        z.ticks(1);
        C.same("on from there", z.process(0, 3), 64);
        C.same("60 .. 63", z.request(0, 0, 0), 60);
        DiskBudgets u = Checks.disk("disk 64 seek 64 rate 64;process a weight 1 from 0 does on take 4 think 0;");
        u.ask(0, 41, 20);
        u.ticks(1);
        C.same("61 and 4 go beyond: 0", u.process(0, 3), 4);
    }

    // ---- where to

    /** Queue 0 is active, and busy for long; its end is 550, near is 20. */
    private static DiskBudgets active() {
        DiskBudgets x = Checks.disk("disk 1000 seek 500 rate 1;near 20;idle 0;" + A + B + E + "stream s weight 1" + REST);
        x.ask(0, 500, 50);
        x.ticks(1);
        C.same("active", x.has(4), 0);
        C.same("end", x.queue(0, 3), 550);
        return x;
    }

    /** "that one is near at most from END of that: it is MERGED into it, MISSES 0" */
    private static void mergesNear() {
        int[][] all = {{529, 1}, {530, 0}, {549, 0}, {550, 0}, {551, 0}, {570, 0}, {571, 1}, {500, 1}, {0, 1}, {999, 1}};
        for (int[] s : all) {
            DiskBudgets x = active();
            C.same("from " + s[0], x.ask(1, s[0], 1), s[1]);
            C.same("sends to", x.process(1, 6), s[1]);
            C.same("misses", x.process(1, 7), 0);
            C.same("end of 0", x.queue(0, 3), s[1] == 0 ? s[0] + 1 : 550);
            C.same("end of 1", x.queue(1, 3), s[1] == 0 ? 0 : s[0] + 1);
            C.same("out of b", x.process(1, 5), 1);
            C.same("out of a", x.process(0, 5), 1);
        }
    }

    /** near 0: from END alone; near 999: from anywhere on a disk of 1000. */
    private static void mergesWithNearNothing() {
        for (int[] s : new int[][] {{0, 3, 1}, {0, 4, 0}, {0, 5, 1}, {1, 2, 1}, {1, 3, 0}, {1, 5, 0}, {1, 6, 1}, {995, 999, 0}, {994, 999, 1}}) {
            DiskBudgets x = Checks.disk("disk 1000 seek 500 rate 1;near " + s[0] + ";" + A + B);
            x.ask(0, 0, 4);
            x.ticks(1);
            C.same("near " + s[0] + ", 4 to " + s[1], x.ask(1, s[1], 1), s[2]);
        }
    }

    /** "is another QUEUE ACTIVE": none is, or its own, and it is not merged. */
    private static void mergesIntoAnotherActive() {
        DiskBudgets x = Checks.disk("disk 1000 seek 500 rate 1;near 20;" + A + B);
        x.ask(0, 500, 50);
        C.same("none is active", x.ask(1, 550, 1), 1);
        DiskBudgets y = active();
        C.same("its own", y.ask(0, 550, 1), 0);
        C.same("b beside it", y.ask(1, 551, 1), 0);
        C.same("a sends to its own still", y.ask(0, 552, 1), 0);
        C.same("e into 0, not into that of b", y.ask(2, 553, 1), 0);
        // One that waits for the next is active, too.
        DiskBudgets z = Checks.disk("disk 1000 seek 500 rate 50;near 20;idle 9;" + A + B);
        z.ask(0, 500, 50);
        z.ticks(3);
        C.same("waits", z.has(7), 11);
        C.same("into it", z.ask(1, 570, 1), 0);
    }

    /** "neither a stream" */
    private static void noStreamMerges() {
        DiskBudgets x = active();
        C.same("a stream", x.ask(3, 550, 1), 3);
        C.same("a process", x.ask(2, 550, 1), 0);
        DiskBudgets y = Checks.disk("disk 1000 seek 500 rate 1;near 20;" + A + "stream s weight 1" + REST + "stream t weight 1" + REST);
        y.ask(1, 500, 50);
        y.ticks(1);
        C.same("a stream is active", y.has(4), 1);
        C.same("a process", y.ask(0, 550, 1), 0);
        C.same("a stream", y.ask(2, 550, 1), 2);
    }

    /** "that is a MISS; at the third one running it is MERGED no more, MISSES are 0; nearer: MISSES are 0" */
    private static void missesOfThree() {
        DiskBudgets x = active();
        // sector, to which queue, misses then
        int[][] all = {{550, 0, 0}, {600, 0, 1}, {700, 0, 2}, {701, 0, 0}, {800, 0, 1}, {100, 0, 2}, {300, 1, 0}, {300, 1, 0}};
        for (int[] s : all) {
            C.same("from " + s[0], x.ask(1, s[0], 1), s[1]);
            C.same("sends to", x.process(1, 6), s[1]);
            C.same("misses", x.process(1, 7), s[2]);
        }
        C.same("end of 0 stays", x.queue(0, 3), 101);
        C.same("end of 1", x.queue(1, 3), 301);
        C.same("eight out", x.process(1, 5), 8);
        C.same("six of them in 0", x.queue(0, 0), 6);
        C.same("two of them in 1", x.queue(1, 0), 2);
    }

    /** "more than near from END of the QUEUE into which it is": both ways. */
    private static void missesBothWays() {
        DiskBudgets x = active();
        // END goes with each: 551, 573, 594, 574, 555
        int[][] all = {{550, 0}, {572, 1}, {593, 0}, {573, 1}, {554, 0}};
        for (int[] s : all) {
            C.same("from " + s[0], x.ask(1, s[0], 1), 0);
            C.same("misses behind " + s[0], x.process(1, 7), s[1]);
        }
    }

    /** "Is it not MERGED (nor was it now)": at the third miss it goes to its own, though another's END is near. */
    private static void partsAndIsNotMergedNow() {
        DiskBudgets x = Checks.disk("disk 1000 seek 500 rate 1;near 20;idle 0;" + A + B + E);
        x.ask(0, 0, 4);
        x.ticks(1);
        C.same("merged", x.ask(1, 4, 1), 0);
        x.ticks(5);
        C.same("none is active", x.has(4), -1);
        C.same("still merged", x.process(1, 6), 0);
        C.same("e", x.ask(2, 500, 50), 2);
        x.ticks(1);
        C.same("e is active", x.has(4), 2);
        C.same("merged into one that is not active: a miss, though near END of e", x.ask(1, 550, 1), 0);
        C.same("misses", x.process(1, 7), 1);
        C.same("a second one", x.ask(1, 100, 1), 0);
        C.same("the third one, near END of e", x.ask(1, 550, 1), 1);
        C.same("its own", x.process(1, 6), 1);
        C.same("no misses", x.process(1, 7), 0);
        C.same("the next one, near END of e", x.ask(1, 550, 1), 2);
        C.same("merged", x.process(1, 6), 2);
    }

    // ---- in the queue to which it sends

    /** "FAR is a request that is more than near from END; END is behind it" */
    private static void farBothWays() {
        DiskBudgets x = Checks.disk("disk 1000 seek 500 rate 1;near 20;" + A);
        // sector, many, FAR so far, END then
        int[][] all = {{20, 1, 0, 21}, {42, 1, 1, 43}, {23, 1, 1, 24}, {3, 1, 2, 4}, {24, 9, 2, 33}, {33, 64, 2, 97}, {118, 1, 3, 119}};
        for (int[] s : all) {
            x.ask(0, s[0], s[1]);
            C.same("far behind " + s[0], x.queue(0, 4), s[2]);
            C.same("end behind " + s[0], x.queue(0, 3), s[3]);
        }
        DiskBudgets y = Checks.disk("disk 1000 seek 500 rate 1;near 20;" + A);
        y.ask(0, 21, 1);
        C.same("21 from 0, the END at first", y.queue(0, 4), 1);
    }

    /** "JUMPS (its latest 8 requests, each FAR or not ..)": the ninth drives out the first. */
    private static void latestEightJumps() {
        DiskBudgets x = Checks.disk("disk 64 seek 64 rate 64;near 0;idle 0;" + A);
        int[] far = {10, 20, 30, 40, 50};
        for (int i = 0; i < far.length; i++) {
            x.ask(0, far[i], 1);
            C.same("far " + i, x.queue(0, 4), i + 1);
            C.same("seeky " + i, x.queue(0, 5), i == 4 ? 1 : 0);
        }
        for (int s = 51; s < 54; s++) x.ask(0, s, 1);
        C.same("eight, five far", x.queue(0, 4), 5);
        x.ticks(40);
        C.same("all done", x.process(0, 9), 8);
        for (int k = 0; k < 6; k++) {
            x.ask(0, 54 + k, 1);
            C.same("far behind " + (9 + k), x.queue(0, 4), Math.max(0, 4 - k));
            C.same("seeky behind " + (9 + k), x.queue(0, 5), 0);
        }
    }

    /** "SEEKY, if 5 of its JUMPS at least are FAR": the disk waits for one with 4, not for one with 5. */
    private static void seekyFromFive() {
        for (int many = 3; many <= 6; many++) {
            DiskBudgets x = Checks.disk("disk 64 seek 64 rate 64;near 0;idle 9;budget 999 to 999;" + A);
            for (int i = 0; i < many; i++) x.ask(0, 10 + 5 * i, 1);
            C.same("far", x.queue(0, 4), many);
            C.same("seeky", x.queue(0, 5), many >= 5 ? 1 : 0);
            while (x.process(0, 9) < many) x.ticks(1);
            C.same("waits with " + many, x.has(4), many >= 5 ? -1 : 0);
            C.same("kept with " + many, x.has(11), many >= 5 ? 1 : 0);
        }
    }

    /** "If none of that QUEUE is OUT (lies in it, or is what it is BUSY with) ..: MEAN is .." */
    private static void meanOnlyIfNoneIsOut() {
        DiskBudgets x = Checks.disk("disk 64 seek 64 rate 1;idle 0;" + A);
        x.ticks(3);
        x.ask(0, 0, 1);
        x.ticks(2);
        C.same("latest", x.queue(0, 6), 4);
        x.ticks(3);
        x.ask(0, 1, 1);
        C.same("none out: 8 less 4", x.queue(0, 12), Checks.bits(4f * 0.125f));
        x.ask(0, 2, 1);
        C.same("one lies", x.queue(0, 12), Checks.bits(0.5f));
        x.ticks(2);
        C.same("none lies", x.queue(0, 0), 0);
        C.same("busy", x.has(5), 1);
        C.same("latest", x.queue(0, 6), 9);
        x.ask(0, 3, 1);
        C.same("busy with one", x.queue(0, 12), Checks.bits(0.5f));
        x.ticks(2);
        C.same("latest", x.queue(0, 6), 11);
        x.ask(0, 4, 1);
        C.same("none out: 12 less 11", x.queue(0, 12), Checks.bits(0.5f * 0.875f + 1f * 0.125f));
    }

    /** "and LATEST is not 0" */
    private static void meanOfNothingDoneYet() {
        DiskBudgets x = Checks.disk("disk 64 seek 64 rate 1;idle 0;" + A);
        x.ticks(200);
        x.ask(0, 0, 1);
        C.same("none was done", x.queue(0, 12), 0);
        x.ticks(2);
        C.same("latest", x.queue(0, 6), 201);
        x.ask(0, 1, 1);
        C.same("one was done", x.queue(0, 12), Checks.bits(0.125f));
        // The first tick at which one can be done is 1.
        DiskBudgets y = Checks.disk("disk 64 seek 64 rate 1;idle 0;" + A);
        y.ask(0, 0, 1);
        y.ticks(2);
        C.same("latest", y.queue(0, 6), 1);
        y.ask(0, 1, 1);
        C.same("2 less 1", y.queue(0, 12), Checks.bits(0.125f));
    }

    /** "it is no stream" */
    private static void meanOfAStream() {
        DiskBudgets x = Checks.disk("disk 64 seek 64 rate 1;idle 0;stream s weight 1" + REST);
        x.ask(0, 0, 1);
        x.ticks(20);
        C.same("latest", x.queue(0, 6), 1);
        x.ask(0, 1, 1);
        C.same("no mean", x.queue(0, 12), 0);
    }

    /** "The QUEUE to which it sends": that of another, if it is merged. */
    private static void meanOfTheQueueMergedInto() {
        DiskBudgets x = Checks.disk("disk 64 seek 64 rate 1;idle 20;" + A + B);
        x.ask(0, 0, 1);
        x.ticks(6);
        C.same("waits", x.has(4), 0);
        C.same("merged", x.ask(1, 1, 1), 0);
        C.same("mean of 0: 6 less 1", x.queue(0, 12), Checks.bits(5f * 0.125f));
        C.same("mean of 1", x.queue(1, 12), 0);
        C.same("jumps of 1", x.queue(1, 3), 0);
        x.ticks(2);
        C.same("latest of 0", x.queue(0, 6), 7);
        C.same("latest of 1", x.queue(1, 6), 0);
        C.same("done by b", x.process(1, 9), 1);
        C.same("done by a", x.process(0, 9), 1);
    }

    /** "START is the greater of NOW and FINISH; FINISH is START and BUDGET by WEIGHT" */
    private static void greaterOfNowAndFinish() {
        String text = "disk 64 seek 64 rate 1;idle 0;near 0;" + A + "process b weight 3" + REST;
        DiskBudgets x = Checks.disk(text);
        x.ask(0, 0, 4);
        x.ask(1, 32, 4);
        C.same("finish of a", x.queue(0, 11), Checks.bits(36f));
        C.same("finish of b", x.queue(1, 11), Checks.bits(12f));
        x.ticks(6);
        C.same("b is done", x.process(1, 9), 1);
        C.same("now", x.bits(0), Checks.bits(1f));
        float start = 0f + 4f / 3f;
        C.same("start of b", x.queue(1, 10), Checks.bits(start));
        C.same("finish of b, none lies", x.queue(1, 11), Checks.bits(start));
        x.ask(1, 40, 4);
        C.same("finish was greater than now", x.queue(1, 10), Checks.bits(start));
        C.same("finish", x.queue(1, 11), Checks.bits(start + 18f / 3f));
        DiskBudgets y = Checks.disk(text);
        y.ask(0, 0, 4);
        y.ask(1, 32, 4);
        y.ticks(14);
        C.same("both are done", y.process(0, 9) + y.process(1, 9), 2);
        C.same("now", y.bits(0), Checks.bits(5f));
        y.ask(1, 40, 4);
        C.same("now is greater than finish", y.queue(1, 10), Checks.bits(5f));
        C.same("finish", y.queue(1, 11), Checks.bits(11f));
    }

    /** "If it is neither ACTIVE nor BACKLOGGED": while it is active, START and FINISH stay. */
    private static void startStaysWhileActive() {
        DiskBudgets x = Checks.disk("disk 64 seek 64 rate 1;idle 9;" + A);
        x.ask(0, 0, 4);
        x.ticks(7);
        C.same("waits", x.has(7), 13);
        C.same("now", x.bits(0), Checks.bits(4f));
        x.ask(0, 4, 4);
        C.same("start", x.queue(0, 10), 0);
        C.same("finish", x.queue(0, 11), Checks.bits(36f));
    }

    /** .. and while it is backlogged. */
    private static void startStaysWhileBacklogged() {
        DiskBudgets x = Checks.disk("disk 64 seek 64 rate 1;near 0;budget 999 to 999;process a weight 100" + REST + B);
        x.ask(1, 40, 1);
        x.ask(0, 0, 9);
        x.ask(0, 20, 40);
        x.ticks(11);
        C.same("a is active", x.has(4), 0);
        C.same("now", x.bits(0), Checks.bits(9f / 101f));
        x.weight(1, 50);
        x.ask(1, 60, 1);
        C.same("start", x.queue(1, 10), 0);
        C.same("finish", x.queue(1, 11), Checks.bits(999f));
        C.same("backlogged", x.queue(1, 9), 1);
    }

    // ---- raised

    private static DiskBudgets rested(String more) {
        return Checks.disk("disk 64 seek 64 rate 1;near 0;raise 3 for 4 rest 5;" + more + "process a weight 2" + REST + "process b weight 100" + REST);
    }

    /** "if the TICK less LATEST is rest at least, RAISED is the TICK and for": LATEST is 0 at first. */
    private static void restOfNothingDoneYet() {
        DiskBudgets x = rested("idle 0;");
        x.ticks(4);
        x.ask(0, 0, 1);
        C.same("at 4", x.queue(0, 7), 0);
        C.same("weight", x.queue(0, 8), 2);
        C.same("finish", x.queue(0, 11), Checks.bits(18f));
        DiskBudgets y = rested("idle 0;");
        y.ticks(5);
        y.ask(0, 0, 1);
        C.same("at 5", y.queue(0, 7), 9);
        C.same("weight", y.queue(0, 8), 6);
        C.same("finish by the raised weight", y.queue(0, 11), Checks.bits(6f));
    }

    private static void restSinceLatest() {
        for (int wait = 3; wait <= 6; wait++) {
            DiskBudgets x = rested("idle 0;");
            x.ask(0, 0, 1);
            x.ticks(2);
            C.same("latest", x.queue(0, 6), 1);
            x.ticks(wait - 1);
            x.ask(0, 1, 1);
            C.same("behind " + wait, x.queue(0, 7), wait >= 5 ? 1 + wait + 4 : 0);
        }
    }

    /** "If it is neither ACTIVE nor BACKLOGGED: if the TICK less LATEST is rest at least .." */
    private static void restOnlyIfItWakes() {
        DiskBudgets x = rested("idle 20;");
        x.ask(0, 0, 1);
        x.ticks(12);
        C.same("active", x.has(4), 0);
        x.ask(0, 1, 1);
        C.same("active: not raised", x.queue(0, 7), 0);
        DiskBudgets y = rested("idle 0;");
        y.ask(1, 0, 60);
        y.ask(0, 10, 1);
        y.ticks(30);
        C.same("backlogged", y.queue(0, 9), 1);
        y.ask(0, 20, 1);
        C.same("backlogged: not raised", y.queue(0, 7), 0);
    }

    /** "0 .. 500": for 0 it is raised for no tick. */
    private static void raisedForNoTick() {
        DiskBudgets x = Checks.disk("disk 64 seek 64 rate 1;raise 20 for 0 rest 1;process a weight 2" + REST);
        x.ticks(1);
        x.ask(0, 0, 1);
        C.same("raised is the tick", x.queue(0, 7), 1);
        C.same("weight", x.queue(0, 8), 2);
        C.same("finish", x.queue(0, 11), Checks.bits(18f));
        DiskBudgets y = Checks.disk("disk 64 seek 64 rate 1;raise 20 for 1 rest 1;process a weight 2" + REST);
        y.ticks(1);
        y.ask(0, 0, 1);
        C.same("raised", y.queue(0, 7), 2);
        C.same("weight", y.queue(0, 8), 40);
        C.same("finish", y.queue(0, 11), Checks.bits(36f / 40f));
        y.ticks(1);
        C.same("weight at 2", y.queue(0, 8), 2);
    }

    /** "as often as raise tells while the TICK is below RAISED" */
    private static void weightBelowRaised() {
        DiskBudgets x = rested("idle 0;");
        x.ticks(10);
        x.ask(0, 0, 30);
        C.same("raised", x.queue(0, 7), 14);
        for (int t = 10; t < 17; t++) {
            C.same("weight at " + t, x.queue(0, 8), t < 14 ? 6 : 2);
            C.same("that of the process stays", x.process(0, 0), 2);
            C.same("b is not raised", x.queue(1, 8), 100);
            x.ticks(1);
        }
    }

    private static void theMostRaised() {
        DiskBudgets x = Checks.disk("disk 64 seek 64 rate 1;raise 20 for 500 rest 999;process a weight 100 from 998 does on take 1 think 0;process b weight 100 from 999 does at 40 take 1 think 0;");
        Checks.go(x, 1000);
        C.same("at 998", x.queue(0, 7), 0);
        C.same("at 999", x.queue(1, 7), 1499);
        C.same("weight", x.queue(1, 8), 2000);
        Checks.go(x, 498);
        C.same("at 1498", x.queue(1, 8), 2000);
        x.ticks(1);
        C.same("at 1499", x.queue(1, 8), 100);
    }
}
