/** Promises 15 to 28: what is told of ticks ahead is what comes when they go by, and nothing changes. */
public final class AheadTest {
    private static final Checks C = new Checks();
    private static final String THREE = "disk 900 seek 60 rate 4;budget 6 to 40;idle 3;slice 12;near 10;raise 3 for 20 rest 15;"
            + "process a weight 2 from 0 does on take 6 think 2;process b weight 5 from 3 does at 300 take 4 think 1,at 700 take 9 think 30;"
            + "stream c weight 1 from 5 does on take 3 think 4;";

    public static void main(String[] args) {
        byHand();
        DiskBudgets x = Checks.disk(THREE);
        asTheyCome(x);
        Checks.go(x, 41);
        asTheyCome(x);
        x.ask(0, 640, 7);
        x.on(1, false);
        Checks.go(x, 6);
        asTheyCome(x);
        expiries(x);
        wrongOnes(x);
        beyond();
        early();
        edges();
        C.close();
    }

    /** a: asked at 0 and every 6 ticks then; done at 2, 8, 14, .. */
    private static void byHand() {
        DiskBudgets x = Checks.disk("disk 9999 seek 1 rate 2;idle 0;process a weight 3 from 0 does on take 4 think 4;process b weight 1 from 900 does on take 1 think 0;");
        C.same("done", x.later(9, 0, 0), 2);
        C.same("sectors", x.later(9, 0, 1), 8);
        C.same("latencies", x.later(9, 0, 2), 4);
        C.same("greatest", x.later(9, 0, 3), 2);
        C.same("not yet", x.later(2, 0, 0), 0);
        C.same("now", x.later(3, 0, 0), 1);
        C.same("greatest without", x.later(2, 0, 3), 0);
        C.same("share", x.share(9, 0), 100);
        C.same("share", x.share(9, 1), 0);
        C.same("share of none", x.share(2, 0), -1);
        C.same("when", x.when(0, 1), 3);
        C.same("when", x.when(0, 2), 9);
        C.same("when never", x.when(1, 1), -1);
        C.same("late", x.late(9, 0, 1), 2);
        C.same("late", x.late(9, 0, 2), 0);
        C.same("alone", x.alone(9, 0), 8);
        C.same("alone b", x.alone(400, 1), 0);
        C.same("gain", x.gain(9, 0), 8);
        C.same("gain", x.gain(9, 1), 8);
        C.same("apart", x.apart(9), Checks.bits(8f / 3f));
        C.same("latest", x.latest(9, 1, 0), 0);
        C.same("latest", x.latest(9, 1, 1), 2);
        C.same("latest of none", x.latest(9, 2, 0), -1);
        C.same("least", x.least(9, 0, 8), 1);
        C.same("least of none", x.least(9, 0, 9), -1);
        C.same("expiry", x.expiry(1, 0), 9);
        C.same("expiry", x.expiry(1, 1), 0);
        C.same("expiry", x.expiry(1, 2), 2);
        C.same("expiry", x.expiry(1, 3), 4);
        C.same("worst", x.worst(9, 0), 0);
        C.same("worst", x.worst(9, 1), 2);
        C.same("worst of none", x.worst(2, 0), -1);
        C.same("slicing", x.slicing(9, 0), 200);
        C.same("slicing", x.slicing(9, 1), 2);
        C.same("slicing without any", x.slicing(2, 1), 0);
        C.same("idling", x.idling(9, 0), 0);
        C.same("idling", x.idling(9, 1), 8);
        x.ticks(3);
        C.same("of these ticks alone", x.later(6, 0, 0), 1);
        C.same("when from now on", x.when(0, 1), 6);
        C.same("lag", x.lag(0), 0);
        C.same("lag", x.lag(1), Checks.bits(0f - 4f / 3f));
    }

    private static void asTheyCome(DiskBudgets x) {
        int tick = x.has(2);
        int now = x.bits(0);
        for (int n : new int[] {1, 2, 5, 17, 60, 100}) {
            int[] before = counts(x);
            int greatest = 0;
            int worst = -1;
            x.ticks(n);
            int[] after = counts(x);
            x.undo();
            int all = 0;
            for (int p = 0; p < 3; p++) all += after[3 * p + 1] - before[3 * p + 1];
            float most = 0f;
            float fewest = 1e9f;
            for (int p = 0; p < 3; p++) {
                for (int w = 0; w < 3; w++) C.same("later " + n + " " + p + " " + w, x.later(n, p, w), after[3 * p + w] - before[3 * p + w]);
                int own = after[3 * p + 1] - before[3 * p + 1];
                C.same("share " + n + " " + p, x.share(n, p), all == 0 ? -1 : own * 100 / all);
                float each = (float) own / (float) x.process(p, 0);
                most = Math.max(most, each);
                fewest = Math.min(fewest, each);
                int g = x.later(n, p, 3);
                if (after[3 * p] > before[3 * p] && g > greatest) {
                    greatest = g;
                    worst = p;
                }
                C.same("late by 0", x.late(n, p, 0), after[3 * p] - before[3 * p]);
                C.same("late by the greatest", x.late(n, p, g), 0);
                C.same("late below the greatest", g == 0 || x.late(n, p, g - 1) > 0, true);
                C.same("alone", x.alone(n, p), alone(x, n, p));
            }
            C.same("apart " + n, x.apart(n), Checks.bits(most - fewest));
            C.same("worst " + n, x.worst(n, 0), worst);
            C.same("worst latency " + n, x.worst(n, 1), worst < 0 ? -1 : greatest);
            C.same("gain " + n, x.gain(n, 0), all);
            latest(x, n);
            idling(x, n);
            slicing(x, n);
            least(x, n);
        }
        whens(x);
        C.same("the tick stays", x.has(2), tick);
        C.same("now stays", x.bits(0), now);
    }

    private static int[] counts(DiskBudgets x) {
        int[] c = new int[9];
        for (int p = 0; p < 3; p++) for (int w = 0; w < 3; w++) c[3 * p + w] = x.process(p, 9 + w);
        return c;
    }

    private static int sectors(DiskBudgets x, int n) {
        int before = x.process(0, 10) + x.process(1, 10) + x.process(2, 10);
        x.ticks(n);
        int after = x.process(0, 10) + x.process(1, 10) + x.process(2, 10);
        x.undo();
        return after - before;
    }

    private static int alone(DiskBudgets x, int n, int p) {
        int acts = 0;
        for (int q = 0; q < 3; q++) acts += x.on(q, q == p) ? 1 : 0;
        int before = x.process(p, 10);
        x.ticks(n);
        int done = x.process(p, 10) - before;
        for (int i = 0; i <= acts; i++) x.undo();
        return done;
    }

    private static void latest(DiskBudgets x, int n) {
        for (int above : new int[] {0, 3, 6, 12, 1000}) {
            int best = -1;
            int most = 0;
            for (int p = 0; p < 3; p++) {
                int c = x.late(n, p, above);
                if (c > most) {
                    most = c;
                    best = p;
                }
            }
            C.same("latest " + n + " " + above, x.latest(n, above, 0), best);
            C.same("latest how many", x.latest(n, above, 1), best < 0 ? -1 : most);
        }
    }

    private static void idling(DiskBudgets x, int n) {
        int best = -1;
        int most = -1;
        for (int i = 0; i <= 20; i++) {
            boolean told = x.idle(i);
            int done = sectors(x, n);
            if (told) x.undo();
            if (i == 0) C.same("gain by 0", x.gain(n, 1), done);
            if (done > most) {
                most = done;
                best = i;
            }
        }
        C.same("idling " + n, x.idling(n, 0), best);
        C.same("idling how many " + n, x.idling(n, 1), most);
    }

    private static void slicing(DiskBudgets x, int n) {
        int best = -1;
        int least = Integer.MAX_VALUE;
        for (int i = 1; i <= 200; i++) {
            boolean told = x.slice(i);
            int g = Math.max(x.later(n, 0, 3), Math.max(x.later(n, 1, 3), x.later(n, 2, 3)));
            if (told) x.undo();
            if (g <= least) {
                least = g;
                best = i;
            }
        }
        C.same("slicing " + n, x.slicing(n, 0), best);
        C.same("slicing latency " + n, x.slicing(n, 1), least);
    }

    private static void least(DiskBudgets x, int n) {
        for (int p = 0; p < 3; p++) {
            for (int many : new int[] {1, 6, 12, 30, 60}) {
                int found = -1;
                for (int w = 1; w <= 100 && found < 0; w++) {
                    boolean told = x.weight(p, w);
                    if (x.later(n, p, 1) >= many) found = w;
                    if (told) x.undo();
                }
                C.same("least " + n + " " + p + " " + many, x.least(n, p, many), found);
            }
        }
    }

    private static void whens(DiskBudgets x) {
        for (int p = 0; p < 3; p++) {
            for (int k = 1; k <= 40; k++) {
                int due = -1;
                for (int n = 0; n <= 400 && due < 0; n++) if (x.later(n, p, 0) >= k) due = n;
                C.same("when " + p + " " + k, x.when(p, k), due);
            }
        }
    }

    private static void expiries(DiskBudgets x) {
        int tick = x.has(2);
        int told = x.has(11);
        int k = 0;
        for (int n = 1; n <= 100; n++) {
            x.ticks(1);
            if (x.has(11) > 0 && x.kept(x.has(11) - 1, 0) == tick + n - 1) {
                int newest = x.has(11) - 1;
                int[] due = {n, x.kept(newest, 1), x.kept(newest, 2), x.kept(newest, 3)};
                for (int i = 0; i < 20 && x.has(2) > tick; i++) x.undo();
                while (x.has(2) > tick + n) throw new IllegalStateException();
                if (x.has(2) == tick) {
                    for (int w = 0; w < 4; w++) C.same("expiry " + k + " " + w, x.expiry(k, w), due[w]);
                    x.ticks(n);
                }
                k++;
            }
        }
        C.same("some expired", k > 3, true);
        C.same("more than forty ahead", Checks.disk("disk 64 seek 64 rate 64;idle 0;process a weight 1 from 0 does at 5 take 1 think 2;").expiry(99, 0), 3 + 4 * 99);
        C.same("none beyond 400", Checks.disk("disk 64 seek 64 rate 64;idle 0;process a weight 1 from 0 does at 5 take 1 think 2;").expiry(100, 0), -1);
    }

    private static void wrongOnes(DiskBudgets x) {
        for (int n : new int[] {-1, 401, Integer.MIN_VALUE, Integer.MAX_VALUE}) {
            C.same("later " + n, x.later(n, 0, 0), -1);
            C.same("share " + n, x.share(n, 0), -1);
            C.same("late " + n, x.late(n, 0, 0), -1);
            C.same("alone " + n, x.alone(n, 0), -1);
            C.same("idling " + n, x.idling(n, 0), -1);
            C.same("gain " + n, x.gain(n, 0), -1);
            C.same("apart " + n, x.apart(n), -1);
            C.same("latest " + n, x.latest(n, 0, 0), -1);
            C.same("least " + n, x.least(n, 0, 1), -1);
            C.same("worst " + n, x.worst(n, 0), -1);
            C.same("slicing " + n, x.slicing(n, 0), -1);
            C.same("when " + n, x.when(0, n), -1);
            C.same("process " + n, x.later(1, n, 0), -1);
            C.same("process " + n, x.share(1, n), -1);
            C.same("process " + n, x.when(n, 1), -1);
            C.same("process " + n, x.late(1, n, 1), -1);
            C.same("process " + n, x.alone(1, n), -1);
            C.same("process " + n, x.least(1, n, 1), -1);
            C.same("queue " + n, x.lag(n), -1);
            C.same("what " + n, x.later(1, 0, n), -1);
            C.same("what " + n, x.idling(1, n), -1);
            C.same("what " + n, x.gain(1, n), -1);
            C.same("what " + n, x.latest(100, 0, n), -1);
            C.same("what " + n, x.expiry(0, n), -1);
            C.same("what " + n, x.worst(100, n), -1);
            C.same("what " + n, x.slicing(1, n), -1);
        }
        C.same("0 ticks", x.later(0, 0, 0), 0);
        C.same("0 ticks", x.late(0, 0, 0), 0);
        C.same("0 ticks", x.alone(0, 0), 0);
        C.same("0 ticks", x.share(0, 0), -1);
        C.same("0 ticks", x.idling(0, 0), -1);
        C.same("0 ticks", x.gain(0, 0), -1);
        C.same("0 ticks", x.apart(0), -1);
        C.same("0 ticks", x.latest(0, 0, 0), -1);
        C.same("0 ticks", x.least(0, 0, 1), -1);
        C.same("0 ticks", x.worst(0, 0), -1);
        C.same("0 ticks", x.slicing(0, 0), -1);
        C.same("201", x.idling(201, 0), -1);
        C.same("200", x.idling(200, 0) >= 0, true);
        C.same("201", x.gain(201, 0), -1);
        C.same("200", x.gain(200, 0) >= 0, true);
        C.same("101", x.least(101, 0, 1), -1);
        C.same("100", x.least(100, 0, 1), 1);
        C.same("101", x.slicing(101, 0), -1);
        C.same("100", x.slicing(100, 0) > 0, true);
        C.same("400", x.apart(400) >= 0, true);
        C.same("0 sectors", x.least(9, 0, 0), -1);
        C.same("above -1", x.late(9, 0, -1), -1);
        C.same("above -1", x.latest(9, -1, 0), -1);
        C.same("k 0", x.when(0, 0), -1);
        C.same("k 41", x.when(0, 41), -1);
        C.same("k -1", x.expiry(-1, 0), -1);
        C.same("what 4", x.later(9, 0, 4), -1);
        C.same("what 4", x.expiry(0, 4), -1);
        C.same("what 2", x.idling(9, 2), -1);
        C.same("what 2", x.gain(9, 2), -1);
        C.same("what 2", x.worst(9, 2), -1);
        C.same("what 2", x.slicing(9, 2), -1);
        C.same("what 2", x.latest(400, 0, 2), -1);
        C.same("nothing refused is counted", x.status(2) + x.status(4) + x.status(5), 0);
        DiskBudgets none = new DiskBudgets();
        C.same("without a disk", none.gain(1, 0), -1);
        C.same("without a disk", none.expiry(0, 0), -1);
        C.same("without a disk", none.worst(1, 0), -1);
        C.same("without a disk", none.latest(1, 0, 0), -1);
    }

    /** Ahead the ticks go on behind 9999. */
    private static void beyond() {
        DiskBudgets x = Checks.disk("disk 64 seek 64 rate 64;idle 0;process a weight 1 from 0 does at 5 take 1 think 2;");
        DiskBudgets y = Checks.disk("disk 64 seek 64 rate 64;idle 0;process a weight 1 from 0 does at 5 take 1 think 2;");
        Checks.go(x, 9999);
        Checks.go(y, 9599);
        C.same("no tick more", x.ticks(1), -1);
        for (int w = 0; w < 4; w++) C.same("as before " + w, x.later(400, 0, w), y.later(400, 0, w));
        C.same("when", x.when(0, 40), y.when(0, 40));
        for (int w = 0; w < 4; w++) C.same("expiry " + w, x.expiry(50, w), y.expiry(50, w));
        C.same("the tick", x.has(2), 9999);
    }

    private static void edges() {
        String one = "disk 64 seek 64 rate 64;idle 0;process a weight 1 from ";
        C.same("done in the 400th", Checks.disk(one + "398 does on take 1 think 0;").when(0, 1), 400);
        C.same("done in the 401st", Checks.disk(one + "399 does on take 1 think 0;").when(0, 1), -1);
        C.same("kept in the 400th", Checks.disk(one + "398 does on take 1 think 9;").expiry(0, 0), 400);
        C.same("kept in the 401st", Checks.disk(one + "399 does on take 1 think 9;").expiry(0, 0), -1);
        DiskBudgets x = Checks.disk("disk 999 seek 500 rate 1;near 0;process a weight 99 from 0 does at 100 take 9 think 0;process b weight 1 from 0 does at 500 take 9 think 0;");
        C.same("the greatest weight alone", x.least(12, 1, 9), 100);
        x.weight(0, 100);
        C.same("of like ones the first", x.least(12, 1, 9), -1);
        x.weight(0, 50);
        C.same("the least", x.least(12, 1, 9), 51);
    }

    /** A slice of 1 parts the two, and so the later one is done sooner than by a long one. */
    private static void early() {
        DiskBudgets x = Checks.disk("disk 64 seek 64 rate 1;budget 60 to 60;idle 0;near 0;process a weight 9 from 0 does on take 2 think 0;process b weight 1 from 0 does at 40 take 1 think 0;");
        int best = x.slicing(100, 0);
        int least = x.slicing(100, 1);
        x.slice(best);
        C.same("by it", x.worst(100, 1), least);
        C.same("not the longest", best < 200, true);
    }
}
