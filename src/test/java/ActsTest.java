/** Promises 29 to 44: what was seen, acts, images, refusals. */
public final class ActsTest {
    private static final Checks C = new Checks();
    private static final String ONE = "disk 64 seek 64 rate 1;process a weight 3 from 0 does on take 2 think 3;process b weight 1 from 999 does on take 1 think 0;";

    public static void main(String[] args) {
        seen();
        tells();
        ticks();
        asks();
        settings();
        chances();
        undoing();
        images();
        refusals();
        C.close();
    }

    /** Active from 0 on, done at 2; it asks again at 5: by idle 3 and more it stays active, by less it ends at 2 + idle. */
    private static void seen() {
        DiskBudgets x = Checks.disk(ONE);
        C.same("all fit", x.fits(), (1 << 21) - 1);
        C.same("no tape", x.see(), -1);
        Checks.put(x, 3, 0);
        C.same("see", x.see(), 1);
        C.same("rows", x.has(12), 1);
        C.same("the tape is gone", x.end(1), false);
        C.same("fits", x.fits(), (1 << 21) - 2);
        Checks.put(x, 5, 6, 4, 0);
        C.same("see", x.see(), 2);
        C.same("fits", x.fits(), 1 << 2);
        Checks.put(x, 5, 6, 4, 6, 3, 0);
        C.same("see", x.see(), 3);
        C.same("fits", x.fits(), 1 << 1);
        Checks.put(x, 5, 1);
        C.same("see", x.see(), 1);
        C.same("none fits", x.fits(), 0);
        C.same("none tells", x.tells(0), -1);
        int refused = x.status(5);
        int[][] wrong = {{0, 0}, {61, 0}, {255, 0}, {1, 2}, {1, 5}, {1, 7}, {1, 255}, {1}, {1, 0, 1},
            {1, 0, 2, 0, 3, 0, 61, 0}};
        for (int[] rows : wrong) {
            Checks.put(x, rows);
            C.same("see", x.see(), -1);
            C.same("refused", x.status(5), ++refused);
            C.same("rows stay", x.has(12), 1);
            C.same("the tape is gone", x.end(1), false);
        }
        StringBuilder rows = new StringBuilder();
        for (int i = 0; i < 16; i++) rows.append((char) 60).append((char) 0);
        Checks.put(x, rows.toString());
        C.same("16 rows", x.see(), 16);
        Checks.put(x, rows + "\1\6");
        C.same("17 rows", x.see(), -1);
        C.same("rows stay", x.has(12), 16);
        C.same("they count", x.fits(), fitsAt60(x));
        DiskBudgets none = new DiskBudgets();
        Checks.put(none, 1, 6);
        C.same("without a disk", none.see(), -1);
        C.same("without a disk", none.fits(), -1);
        C.same("without a disk", none.tells(0), -1);
    }

    private static int fitsAt60(DiskBudgets x) {
        int mask = 0;
        for (int i = 0; i <= 20; i++) {
            boolean told = x.idle(i);
            x.ticks(60);
            mask |= x.has(4) == 0 ? 1 << i : 0;
            x.undo();
            if (told) x.undo();
        }
        return mask;
    }

    private static void tells() {
        DiskBudgets x = Checks.disk(ONE);
        C.same("three less at 5", x.tells(1), 18);
        C.same("the first of like ones", x.tells(0), 5);
        C.same("what 2", x.tells(2), -1);
        C.same("what -1", x.tells(-1), -1);
        Checks.put(x, 5, 6);
        x.see();
        C.same("fits", x.fits(), 7);
        C.same("one or two", x.tells(0), 3);
        C.same("two at the most", x.tells(1), 2);
        x.ticks(3);
        Checks.put(x, 1, 0);
        x.see();
        C.same("told now: until stays", x.fits(), (1 << 21) - 1);
    }

    private static void ticks() {
        DiskBudgets x = Checks.disk(ONE);
        C.same("1", x.ticks(1), 1);
        C.same("200", x.ticks(200), 201);
        for (int n : new int[] {0, -1, 201, Integer.MAX_VALUE, Integer.MIN_VALUE}) C.same("ticks " + n, x.ticks(n), -1);
        C.same("refused", x.status(2), 5);
        Checks.go(x, 9798 - 1);
        C.same("beyond 9999", x.ticks(2), -1);
        C.same("9999", x.ticks(1), 9999);
        C.same("beyond 9999", x.ticks(1), -1);
        C.same("refused", x.status(2), 7);
        C.same("undone", x.undo(), true);
        C.same("9999", x.ticks(1), 9999);
    }

    private static void asks() {
        DiskBudgets x = Checks.disk(ONE);
        int[][] wrong = {{0, 0, 0}, {0, 0, 65}, {0, -1, 1}, {0, 64, 1}, {0, 63, 2}, {0, 1, 64}, {2, 0, 1}, {-1, 0, 1},
            {0, Integer.MAX_VALUE, 1}, {0, 0, Integer.MIN_VALUE}, {0, Integer.MAX_VALUE, 64}};
        for (int[] w : wrong) C.same("ask", x.ask(w[0], w[1], w[2]), -1);
        C.same("refused", x.status(3), wrong.length);
        C.same("no acts", x.has(13), 0);
        C.same("the last sector", x.ask(1, 63, 1), 1);
        C.same("all sectors", x.ask(1, 0, 64), 1);
        C.same("place", x.process(1, 3), 64);
        C.same("thinks stays", x.process(1, 1), 999);
        C.same("waits stays", x.process(1, 2), 0);
        C.same("step stays", x.process(1, 4), 0);
        C.same("out", x.process(1, 5), 2);
        C.same("start", x.queue(1, 11), Checks.bits(36f));
        x.on(1, false);
        C.same("also if it is not on", x.ask(1, 5, 1), 1);
        x.ticks(3);
        C.same("the tick at which it was asked", x.request(1, 0, 3), 0);
    }

    private static void settings() {
        DiskBudgets x = Checks.disk(ONE);
        C.same("the same weight", x.weight(0, 3), false);
        C.same("weight 0", x.weight(0, 0), false);
        C.same("weight 101", x.weight(0, 101), false);
        C.same("of none", x.weight(2, 5), false);
        C.same("of none", x.weight(-1, 5), false);
        C.same("weight", x.weight(0, 100), true);
        C.same("told", x.process(0, 0), 100);
        C.same("weight of the queue", x.queue(0, 8), 100);
        C.same("the same idle", x.idle(4), false);
        C.same("idle -1", x.idle(-1), false);
        C.same("idle 21", x.idle(21), false);
        C.same("idle", x.idle(20), true);
        C.same("idle", x.idle(0), true);
        C.same("told", x.has(8), 0);
        C.same("the same slice", x.slice(40), false);
        C.same("slice 0", x.slice(0), false);
        C.same("slice 201", x.slice(201), false);
        C.same("slice", x.slice(200), true);
        C.same("slice", x.slice(1), true);
        C.same("told", x.has(9), 1);
        C.same("it is on", x.on(0, true), false);
        C.same("of none", x.on(2, false), false);
        C.same("of none", x.on(-1, true), false);
        C.same("off", x.on(0, false), true);
        C.same("it is off", x.on(0, false), false);
        C.same("told", x.process(0, 8), 0);
        C.same("refused", x.status(3), 15);
        x.ticks(5);
        C.same("nothing asked", x.process(0, 5), 0);
        C.same("acts", x.has(13), 7);
        C.same("on", x.on(0, true), true);
        x.ticks(1);
        C.same("asked", x.process(0, 5), 1);
        DiskBudgets y = Checks.disk("disk 64 seek 64 rate 1;process a weight 3 from 5 does on take 2 think 3;");
        y.on(0, false);
        y.ticks(3);
        C.same("it thinks no further", y.process(0, 1), 5);
        DiskBudgets none = new DiskBudgets();
        C.same("without a disk", none.idle(3), false);
        C.same("without a disk", none.slice(3), false);
    }

    private static void chances() {
        DiskBudgets x = Checks.disk(ONE);
        DiskBudgets y = Checks.disk(ONE);
        C.same("seed", x.seed(12345), true);
        C.same("told", x.has(14), 12345);
        long drawn = 12345;
        long[] d = new long[40];
        for (int i = 0; i < d.length; i++) {
            drawn = (1103515245L * drawn + 12345L) & 0x7fffffffL;
            d[i] = drawn >> 6;
        }
        for (int i = 0; i < 40; i += 4) {
            int p = (int) (d[i] % 2);
            int s = (int) (d[i + 1] % 64);
            int many = (int) (d[i + 2] % 16) + 1;
            if (s + many <= 64) y.ask(p, s, many);
            int t = (int) (d[i + 3] % 8);
            if (t > 0) y.ticks(t);
        }
        C.same("ten times", x.chance(10), y.has(2));
        C.same("the seed then", x.has(14), drawn);
        C.same("one act", x.has(13), 1);
        for (int q = 0; q < 2; q++) {
            for (int w = 0; w < 13; w++) C.same("queue " + q + " " + w, x.queue(q, w), y.queue(q, w));
            for (int w = 0; w < 13; w++) C.same("process " + q + " " + w, x.process(q, w), y.process(q, w));
        }
        for (int n : new int[] {0, -1, 41, Integer.MAX_VALUE}) C.same("chance " + n, x.chance(n), -1);
        C.same("the seed stays", x.has(14), drawn);
        C.same("undone", x.undo(), true);
        C.same("the tick", x.has(2), 0);
        C.same("the seed stays", x.has(14), drawn);
        C.same("refused", x.status(2), 4);
        Checks.go(x, 9999 - 280);
        C.same("40 times to 9999 at most", x.chance(40) > 0, true);
        x.undo();
        x.ticks(1);
        C.same("it could come beyond", x.chance(40), -1);
        C.same("39 times", x.chance(39) > 0, true);
        C.same("seed below 0", x.seed(-1), false);
        C.same("refused", x.status(5), 1);
        C.same("seed 0", x.seed(0), true);
        C.same("the greatest", x.seed(Integer.MAX_VALUE), true);
        C.same("told", x.has(14), Integer.MAX_VALUE);
        C.same("seed is no act", x.has(13), 20);
    }

    private static void undoing() {
        DiskBudgets x = Checks.disk(ONE);
        C.same("nothing", x.undo(), false);
        C.same("refused", x.status(4), 1);
        int[][] stands = new int[31][];
        for (int i = 0; i < 30; i++) {
            stands[i] = standing(x);
            switch (i % 7) {
                case 0: x.ask(0, i, 2); break;
                case 1: x.ticks(30); break;
                case 2: x.weight(1, 10 + i); break;
                case 3: x.idle(i % 2 == 0 ? 7 : 8); break;
                case 4: x.slice(i + 1); break;
                case 5: x.on(0, i % 2 == 0); break;
                default: x.chance(5); break;
            }
            C.same("acts", x.has(13) > 0 && x.has(13) <= 20, true);
        }
        C.same("twenty", x.has(13), 20);
        int refused = x.status(3);
        C.same("all were acts", refused, 0);
        Checks.put(x, 3, 6);
        x.see();
        for (int i = 29; i >= 10; i--) {
            C.same("undo", x.undo(), true);
            int[] now = standing(x);
            for (int k = 0; k < now.length; k++) C.same("stands as before act " + i + ", " + k, now[k], stands[i][k]);
        }
        C.same("no more", x.undo(), false);
        C.same("refused", x.status(4), 2);
        C.same("seen stays", x.has(12), 1);
    }

    private static int[] standing(DiskBudgets x) {
        int[] all = new int[400];
        int i = 0;
        for (int w = 0; w < 12; w++) all[i++] = x.has(w);
        for (int w = 0; w < 2; w++) all[i++] = x.bits(w);
        for (int q = 0; q < 2; q++) {
            for (int w = 0; w < 13; w++) all[i++] = x.queue(q, w);
            for (int w = 0; w < 13; w++) all[i++] = x.process(q, w);
        }
        for (int q = -1; q < 2; q++) for (int k = 0; k < 9; k++) for (int w = 0; w < 5; w++) all[i++] = x.request(q, k, w);
        for (int k = 0; k < 40; k++) for (int w = 0; w < 4; w++) all[i++] = x.kept(k, w);
        return all;
    }

    private static void images() {
        DiskBudgets x = new DiskBudgets();
        C.same("none yet", x.octet(0), -1);
        C.same("without a disk", x.image(), 3);
        C.same("check", x.octet(2), 212);
        C.same("take without a disk", x.take(), false);
        Checks.put(x, ONE);
        x.disk();
        C.same("the latest image stays", x.octet(2), 212);
        x.weight(0, 50);
        x.on(1, false);
        x.idle(9);
        x.ticks(30);
        C.same("image", x.image(), 7);
        int[] due = {9, 40, 50, 1, 1, 0, 0};
        int c = 163;
        for (int k = 0; k < 6; k++) c = (3 * c + due[k]) % 251;
        due[6] = c;
        for (int k = 0; k < 7; k++) C.same("octet " + k, x.octet(k), due[k]);
        C.same("octet 7", x.octet(7), -1);
        C.same("octet -1", x.octet(-1), -1);
        x.seed(5);
        Checks.put(x, 3, 6);
        x.see();
        x.idle(1);
        wrongImages(x, due);
        Checks.put(x, due);
        C.same("take", x.take(), true);
        C.same("the tape is gone", x.end(1), false);
        C.same("idle", x.has(8), 9);
        C.same("slice", x.has(9), 40);
        C.same("weight", x.process(0, 0), 50);
        C.same("on", x.process(0, 8), 1);
        C.same("off", x.process(1, 8), 0);
        C.same("the tick", x.has(2), 0);
        C.same("head", x.has(3), 0);
        C.same("done", x.process(0, 9), 0);
        C.same("top", x.has(10), 64);
        C.same("kept", x.has(11), 0);
        C.same("acts", x.has(13), 0);
        C.same("the seed", x.has(14), 5);
        C.same("thinks", x.process(1, 1), 999);
        C.same("undo", x.undo(), false);
        C.same("ticks", x.ticks(3), 3);
        C.same("asked", x.process(0, 9), 1);
    }

    private static void wrongImages(DiskBudgets x, int[] due) {
        int tick = x.has(2);
        int acts = x.has(13);
        int refused = x.status(5);
        int[][] wrong = {{0, 21}, {1, 0}, {1, 201}, {2, 0}, {2, 101}, {3, 2}, {5, 2}, {4, 255}};
        for (int[] w : wrong) {
            int[] bytes = due.clone();
            bytes[w[0]] = w[1];
            int c = 163;
            for (int k = 0; k < 6; k++) c = (3 * c + bytes[k]) % 251;
            bytes[6] = c;
            Checks.put(x, bytes);
            C.same("byte " + w[0] + " is " + w[1], x.take(), false);
        }
        int[] last = due.clone();
        last[6] = (last[6] + 1) % 251;
        Checks.put(x, last);
        C.same("the last byte", x.take(), false);
        Checks.put(x, 9, 40, 212);
        C.same("too short", x.take(), false);
        C.same("no tape", x.take(), false);
        int[] longer = java.util.Arrays.copyOf(due, 9);
        longer[6] = 1;
        longer[7] = 1;
        int c = 163;
        for (int k = 0; k < 8; k++) c = (3 * c + longer[k]) % 251;
        longer[8] = c;
        Checks.put(x, longer);
        C.same("too long", x.take(), false);
        C.same("the tape is gone", x.end(1), false);
        C.same("refused", x.status(5), refused + 12);
        C.same("the tick stays", x.has(2), tick);
        C.same("acts stay", x.has(13), acts);
        C.same("idle stays", x.has(8), 1);
    }

    private static void refusals() {
        DiskBudgets x = new DiskBudgets();
        x.end(1);
        x.end(-1);
        x.disk();
        x.ticks(1);
        x.chance(1);
        x.ask(0, 0, 1);
        x.weight(0, 1);
        x.idle(1);
        x.slice(1);
        x.on(0, false);
        x.undo();
        x.seed(-1);
        x.see();
        x.take();
        int[] due = {2, 1, 2, 5, 1, 3};
        for (int k = 0; k < 6; k++) C.same("status " + k, x.status(k), due[k]);
        C.same("status 6", x.status(6), -1);
        C.same("status -1", x.status(-1), -1);
    }
}
