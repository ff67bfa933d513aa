import java.util.Arrays;
import java.util.function.Consumer;

/** The edges of promises 32 to 44: acts, what is undone, images, refusals. */
public final class ActEdgesTest {
    private static final Checks C = new Checks();
    private static final int LEAST = Integer.MIN_VALUE;
    private static final int MOST = Integer.MAX_VALUE;
    private static final String REST = " from 999 does on take 1 think 0;";
    private static final String TWO = "disk 64 seek 64 rate 1;process a weight 3 from 0 does on take 2 think 3;stream b weight 1" + REST;

    public static void main(String[] args) {
        ticksFrom1To200();
        ticksUpTo9999();
        ticksOneByOne();
        askSectors();
        askUpTo64();
        askUpToEightOut();
        askOfAllAtOnce();
        askStays();
        askToWhichQueue();
        weightFrom1To100();
        idleFrom0To20();
        sliceFrom1To200();
        onAndOff();
        settingsCountFromThenOn();
        chanceFrom1To40();
        chanceUpTo9999();
        chanceWhatCannotBe();
        chanceWithEightOut();
        chanceIsOneAct();
        drawsGoRound();
        undoOfTwenty();
        undoOfEach();
        undoOfMoreThanFortyKept();
        undoLeavesSeedAndSeen();
        undoOfNone();
        seedFrom0();
        seedIsNoAct();
        refusedAreNoActs();
        withoutADisk();
        withoutProcesses();
        imageWithoutADisk();
        imageOfEachCount();
        imageLastByte();
        octetsOfTheLatest();
        takeAsItTells();
        takeLengths();
        takeNumbers();
        takeLastByte();
        takeAllElseAsAtFirst();
        takeRefusedStays();
        takeWithoutADisk();
        statusOfEach();
        C.close();
    }

    /** What most tests of what stays begin with. */
    private static void past(DiskBudgets x) {
        Checks.put(x, TWO);
        x.disk();
        x.ticks(9);
        x.ask(1, 30, 9);
        x.slice(17);
        Checks.put(x, 3, 0);
        x.see();
        x.image();
    }

    /** One that is merged, with a miss; steps behind them; one raised; one that waits, one that lies, one it is busy with. */
    private static void busyPast(DiskBudgets x) {
        Checks.put(x, "disk 99 seek 9 rate 1;budget 1 to 30;idle 2;slice 99;near 9;raise 3 for 300 rest 1;"
                + "process a weight 9 from 3 does on take 20 think 0,on take 4 think 0,on take 7 think 1;"
                + "process b weight 5 from 4 does at 24 take 8 think 0,at 90 take 5 think 0,at 50 take 1 think 0;stream c weight 2 from 999 does on take 3 think 2;");
        x.disk();
        x.ticks(5);
        x.ask(1, 70, 1);
        x.ask(2, 1, 2);
        x.ticks(1);
        C.same("merged", x.process(1, 6), 0);
        C.same("a miss", x.process(1, 7), 1);
        C.same("raised", x.queue(0, 7) > 0, true);
        C.same("waits", x.process(0, 2), 1);
        C.same("a step behind it", x.process(0, 4), 1);
    }

    /** A refused call: what it answers, that it is counted, and that all stays. */
    private static void refused(String what, int number, Consumer<DiskBudgets> call) {
        Standing.stays(C, what, ActEdgesTest::past, call, number);
    }

    // ---- 32: ticks

    /** "n TICKS (1 .. 200): the TICK then; NONE, refused (2), when n can't be" */
    private static void ticksFrom1To200() {
        DiskBudgets x = Checks.disk(TWO);
        C.same("1", x.ticks(1), 1);
        C.same("200", x.ticks(200), 201);
        C.same("199", x.ticks(199), 400);
        for (int n : new int[] {0, -1, 201, LEAST, MOST}) {
            C.same("ticks " + n, x.ticks(n), -1);
            refused("ticks " + n, 2, y -> C.same("ticks " + n, y.ticks(n), -1));
        }
        C.same("refused", x.status(2), 5);
        C.same("the tick stays", x.has(2), 400);
    }

    /** "it would be more than 9999" */
    private static void ticksUpTo9999() {
        DiskBudgets x = Checks.disk(TWO);
        Checks.go(x, 9800);
        C.same("200 to 10000", x.ticks(200), -1);
        C.same("the tick stays", x.has(2), 9800);
        C.same("199 to 9999", x.ticks(199), 9999);
        C.same("one more", x.ticks(1), -1);
        C.same("200 more", x.ticks(200), -1);
        C.same("refused", x.status(2), 3);
        C.same("undone", x.undo(), true);
        C.same("9800", x.has(2), 9800);
        C.same("to 9999", x.ticks(199), 9999);
        C.same("a request at 9999", x.ask(1, 0, 1), 1);
        C.same("its tick", x.request(1, x.queue(1, 0) - 1, 3), 9999);
    }

    /** n ticks are n times one tick, one act each. */
    private static void ticksOneByOne() {
        DiskBudgets x = Checks.disk(TWO);
        DiskBudgets y = Checks.disk(TWO);
        x.ticks(20);
        C.same("one act", x.has(13), 1);
        for (int i = 0; i < 20; i++) y.ticks(1);
        C.same("twenty acts", y.has(13), 20);
        x.undo();
        for (int i = 0; i < 20; i++) y.undo();
        Standing.same(C, "both are undone", x, y);
        x.ticks(20);
        for (int i = 0; i < 4; i++) y.ticks(5);
        for (int i = 0; i < 3; i++) x.weight(0, 3 + (i + 1) % 2);
        C.same("as many acts", x.has(13), y.has(13));
        for (int w = 0; w < 13; w++) C.same("process " + w, x.process(0, w), w == 0 ? 4 : y.process(0, w));
        C.same("kept", x.has(11), y.has(11));
    }

    // ---- 33: ask

    /** "there are no such SECTORS" */
    private static void askSectors() {
        int[][] all = {{0, 1, 1}, {63, 1, 1}, {64, 1, 0}, {-1, 1, 0}, {62, 2, 1}, {63, 2, 0}, {0, 64, 1}, {1, 64, 0}, {1, 63, 1}, {-1, 2, 0},
            {MOST, 1, 0}, {MOST, 64, 0}, {LEAST, 1, 0}, {LEAST, 64, 0}, {MOST - 63, 64, 0}};
        for (int[] s : all) {
            DiskBudgets x = Checks.disk(TWO);
            C.same("ask " + s[0] + " " + s[1], x.ask(0, s[0], s[1]), s[2] == 1 ? 0 : -1);
            C.same("refused", x.status(3), 1 - s[2]);
            C.same("acts", x.has(13), s[2]);
            if (s[2] == 0) refused("ask " + s[0] + " " + s[1], 3, y -> C.same("ask", y.ask(0, s[0], s[1]), -1));
        }
        DiskBudgets large = Checks.disk("disk 9999 seek 64 rate 1;process a weight 1" + REST);
        C.same("the last sector", large.ask(0, 9998, 1), 0);
        C.same("none behind", large.ask(0, 9999, 1), -1);
        C.same("the last 64", large.ask(0, 9935, 64), 0);
        C.same("one too far", large.ask(0, 9936, 64), -1);
    }

    /** "so many SECTORS (1 .. 64)" */
    private static void askUpTo64() {
        DiskBudgets x = Checks.disk("disk 999 seek 64 rate 1;process a weight 1" + REST);
        int[][] all = {{0, -1}, {1, 0}, {64, 0}, {65, -1}, {-1, -1}, {LEAST, -1}, {MOST, -1}};
        for (int[] s : all) C.same("ask for " + s[0], x.ask(0, 0, s[0]), s[1]);
        C.same("refused", x.status(3), 5);
    }

    /** "when it has 8 OUT": the eighth is taken, the ninth is not; one done, one more is. */
    private static void askUpToEightOut() {
        DiskBudgets x = Checks.disk("disk 64 seek 64 rate 64;near 0;process a weight 1" + REST + "process b weight 1" + REST);
        for (int i = 0; i < 8; i++) C.same("ask " + i, x.ask(0, i, 1), 0);
        C.same("the ninth", x.ask(0, 8, 1), -1);
        C.same("refused", x.status(3), 1);
        C.same("of b", x.ask(1, 40, 1), 1);
        x.ticks(1);
        C.same("busy with one: still eight out", x.ask(0, 8, 1), -1);
        x.ticks(1);
        C.same("one is done", x.process(0, 5), 7);
        C.same("one more", x.ask(0, 8, 1), 0);
        C.same("and none more", x.ask(0, 9, 1), -1);
        // One of its STEPS counts, too; by its STEP it comes to 9.
        DiskBudgets y = Checks.disk("disk 64 seek 1 rate 1;process a weight 1 from 0 does at 60 take 1 think 0;");
        y.ticks(1);
        for (int i = 0; i < 7; i++) C.same("beside that of its step " + i, y.ask(0, i, 1), 0);
        C.same("eight are out", y.ask(0, 9, 1), -1);
        DiskBudgets z = Checks.disk("disk 64 seek 1 rate 1;process a weight 1 from 0 does at 60 take 1 think 0;");
        for (int i = 0; i < 8; i++) z.ask(0, 30, 1);
        z.ticks(1);
        C.same("nine out", z.process(0, 5), 9);
        C.same("none more", z.ask(0, 9, 1), -1);
        // Merged into another queue they are still its own.
        DiskBudgets u = Checks.disk("disk 64 seek 64 rate 1;near 64;process a weight 1" + REST + "process b weight 1" + REST);
        u.ask(0, 0, 9);
        u.ticks(1);
        for (int i = 0; i < 8; i++) C.same("into that of a " + i, u.ask(1, 9, 1), 0);
        C.same("the ninth", u.ask(1, 9, 1), -1);
        C.same("a has one out", u.process(0, 5), 1);
        C.same("of a", u.ask(0, 9, 1), 0);
    }

    /** Nine out of each of six, all in one queue but for that which it is busy with: none is lost. */
    private static void askOfAllAtOnce() {
        StringBuilder six = new StringBuilder("disk 64 seek 1 rate 1;near 999;budget 999 to 999;");
        for (char c = 'a'; c <= 'f'; c++) six.append("process ").append(c).append(" weight 1 from 1 does on take 1 think 0;");
        DiskBudgets x = Checks.disk(six.toString());
        x.ask(0, 0, 64);
        x.ticks(1);
        for (int p = 0; p < 6; p++) for (int i = p == 0 ? 1 : 0; i < 8; i++) C.same("to the first", x.ask(p, 9 + p, 1), 0);
        x.ticks(1);
        C.same("53 lie there", x.queue(0, 0), 53);
        for (int p = 0; p < 6; p++) C.same("nine out of " + p, x.process(p, 5), 9);
        C.same("the last that came", x.request(0, 52, 2), 5);
        C.same("by its step", x.request(0, 52, 4), 0);
        C.same("no more", x.request(0, 53, 2), -1);
        for (int p = 0; p < 6; p++) C.same("none more by hand", x.ask(p, 9, 1), -1);
        C.same("ahead", x.gain(200, 0) > 64, true);
        C.same("undo", x.undo(), true);
        C.same("47 lie there", x.queue(0, 0), 47);
        x.ticks(1);
        for (int p = 0; p < 6; p++) x.on(p, false);
        Checks.go(x, 400);
        for (int p = 0; p < 6; p++) C.same("all are done of " + p, x.process(p, 9), 9);
        C.same("none out", x.process(5, 5), 0);
    }

    /** "as if its PROCESS ASKED, but that its STEPS, THINKS, whether it WAITS stay" */
    private static void askStays() {
        DiskBudgets x = Checks.disk("disk 64 seek 64 rate 1;process a weight 1 from 5 does on take 2 think 3,on take 1 think 9;");
        x.ticks(2);
        x.ask(0, 9, 4);
        C.same("step", x.process(0, 4), 0);
        C.same("thinks", x.process(0, 1), 3);
        C.same("waits", x.process(0, 2), 0);
        C.same("place goes", x.process(0, 3), 13);
        C.same("out goes", x.process(0, 5), 1);
        C.same("the tick stays", x.has(2), 2);
        x.ticks(4);
        C.same("asked by its step", x.process(0, 2), 1);
        C.same("on from there", x.process(0, 3), 15);
        x.ask(0, 20, 1);
        C.same("step", x.process(0, 4), 1);
        C.same("waits", x.process(0, 2), 1);
        // Whether it is ON or not.
        x.on(0, false);
        C.same("off", x.ask(0, 30, 1), 0);
        C.same("it stays off", x.process(0, 8), 0);
    }

    /** "to which QUEUE .. NONE .. there is none such" */
    private static void askToWhichQueue() {
        for (int p : new int[] {-1, 2, 6, LEAST, MOST}) refused("ask of " + p, 3, y -> C.same("ask", y.ask(p, 0, 1), -1));
        DiskBudgets x = Checks.disk("disk 64 seek 64 rate 1;near 5;process a weight 1" + REST + "process b weight 1" + REST);
        C.same("its own", x.ask(1, 0, 9), 1);
        x.ticks(1);
        C.same("that into which it is merged", x.ask(0, 14, 1), 1);
        C.same("it lies there", x.queue(1, 0), 1);
        C.same("not here", x.queue(0, 0), 0);
    }

    // ---- 34 to 37

    /** "Another weight (1 .. 100) of a PROCESS .. refused (3), when it is that, it can't be, or there is none such" */
    private static void weightFrom1To100() {
        DiskBudgets x = Checks.disk(TWO);
        int[][] all = {{0, 0, 0}, {0, 1, 1}, {0, 1, 0}, {0, 100, 1}, {0, 100, 0}, {0, 101, 0}, {0, -1, 0}, {0, LEAST, 0}, {0, MOST, 0},
            {1, 1, 0}, {1, 2, 1}, {2, 5, 0}, {-1, 5, 0}, {MOST, 5, 0}, {LEAST, 5, 0}};
        int no = 0;
        for (int[] s : all) {
            C.same("weight " + s[0] + " " + s[1], x.weight(s[0], s[1]), s[2] == 1);
            no += 1 - s[2];
            C.same("refused", x.status(3), no);
        }
        C.same("weight of a", x.process(0, 0), 100);
        C.same("weight of b", x.process(1, 0), 2);
        for (int w : new int[] {3, 0, 101}) refused("weight " + w, 3, y -> C.same("weight", y.weight(0, w), false));
        refused("weight of none", 3, y -> C.same("weight", y.weight(2, 5), false));
    }

    /** "Another number idle (0 .. 20) .. when it is that, it can't be" */
    private static void idleFrom0To20() {
        DiskBudgets x = Checks.disk(TWO);
        int[][] all = {{4, 0}, {-1, 0}, {0, 1}, {0, 0}, {20, 1}, {20, 0}, {21, 0}, {LEAST, 0}, {MOST, 0}, {4, 1}};
        int no = 0;
        for (int[] s : all) {
            C.same("idle " + s[0], x.idle(s[0]), s[1] == 1);
            if (s[1] == 1) C.same("told", x.has(8), s[0]);
            no += 1 - s[1];
            C.same("refused", x.status(3), no);
        }
        for (int n : new int[] {4, -1, 21}) refused("idle " + n, 3, y -> C.same("idle", y.idle(n), false));
    }

    /** "Another slice (1 .. 200) .. when it is that, it can't be" */
    private static void sliceFrom1To200() {
        DiskBudgets x = Checks.disk(TWO);
        int[][] all = {{40, 0}, {0, 0}, {-1, 0}, {1, 1}, {1, 0}, {200, 1}, {200, 0}, {201, 0}, {LEAST, 0}, {MOST, 0}, {40, 1}};
        int no = 0;
        for (int[] s : all) {
            C.same("slice " + s[0], x.slice(s[0]), s[1] == 1);
            if (s[1] == 1) C.same("told", x.has(9), s[0]);
            no += 1 - s[1];
            C.same("refused", x.status(3), no);
        }
        for (int n : new int[] {17, 0, 201}) refused("slice " + n, 3, y -> C.same("slice", y.slice(n), false));
    }

    /** "A PROCESS is ON, or not: true; false, refused (3), when it is so, or there is none such" */
    private static void onAndOff() {
        DiskBudgets x = Checks.disk(TWO);
        for (int p = 0; p < 2; p++) {
            C.same("it is on", x.on(p, true), false);
            C.same("off", x.on(p, false), true);
            C.same("told", x.process(p, 8), 0);
            C.same("it is off", x.on(p, false), false);
            C.same("on", x.on(p, true), true);
            C.same("told", x.process(p, 8), 1);
        }
        C.same("refused", x.status(3), 4);
        for (int p : new int[] {-1, 2, LEAST, MOST}) {
            for (boolean on : new boolean[] {true, false}) refused("on " + p, 3, y -> C.same("on", y.on(p, on), false));
        }
        refused("on", 3, y -> C.same("on", y.on(0, true), false));
        refused("on, behind an off that was undone", 3, y -> {
            y.on(0, false);
            y.undo();
            C.same("on again", y.on(0, true), false);
        });
    }

    /** Another weight does not move what was told of START and FINISH before. */
    private static void settingsCountFromThenOn() {
        DiskBudgets x = Checks.disk("disk 64 seek 64 rate 1;idle 0;near 0;process a weight 2" + REST + "process b weight 1" + REST);
        x.ask(0, 0, 4);
        C.same("finish", x.queue(0, 11), Checks.bits(18f));
        x.weight(0, 4);
        C.same("finish stays", x.queue(0, 11), Checks.bits(18f));
        C.same("weight", x.queue(0, 8), 4);
        x.ticks(5);
        C.same("now by the new one", x.bits(0), Checks.bits(1f));
        C.same("start by the new one", x.queue(0, 10), Checks.bits(1f));
    }

    // ---- 38: chance

    /** "n times by the seed (1 .. 40) .. NONE, refused (2), when n can't be" */
    private static void chanceFrom1To40() {
        DiskBudgets x = Checks.disk(TWO);
        C.same("1", x.chance(1) >= 0, true);
        C.same("40", x.chance(40) >= 0, true);
        int seed = x.has(14);
        for (int n : new int[] {0, -1, 41, LEAST, MOST}) {
            C.same("chance " + n, x.chance(n), -1);
            C.same("the seed stays", x.has(14), seed);
            refused("chance " + n, 2, y -> C.same("chance " + n, y.chance(n), -1));
        }
        C.same("refused", x.status(2), 5);
    }

    /** "it could come beyond TICK 9999 (7 each time)" */
    private static void chanceUpTo9999() {
        for (int n : new int[] {1, 2, 40}) {
            DiskBudgets x = Checks.disk(TWO);
            Checks.go(x, 9999 - 7 * n);
            C.same("just not beyond, " + n, x.chance(n) >= 0, true);
            x.undo();
            x.ticks(1);
            int seed = x.has(14);
            C.same("a tick later, " + n, x.chance(n), -1);
            C.same("the seed stays", x.has(14), seed);
            C.same("refused", x.status(2), 1);
            if (n > 1) C.same("one time less", x.chance(n - 1) >= 0, true);
        }
        DiskBudgets y = Checks.disk(TWO);
        Checks.go(y, 9999);
        C.same("at 9999", y.chance(1), -1);
    }

    private static long step(long x) {
        return (1103515245L * x + 12345L) % 2147483648L;
    }

    /** "that one ASKS by hand from there on for so many and 1 (what can't be is not), then a DRAW of 8 TICKS" */
    private static void chanceWhatCannotBe() {
        boolean[] met = new boolean[3];
        for (int seed = 0; seed < 3000 && !(met[0] && met[1] && met[2]); seed++) {
            long a = step(seed);
            long b = step(a);
            long c = step(b);
            long d = step(c);
            int process = (int) (a / 64 % 2);
            int sector = (int) (b / 64 % 64);
            int many = (int) (c / 64 % 16) + 1;
            int ticks = (int) (d / 64 % 8);
            int kind = sector + many == 64 ? 0 : sector + many == 65 ? 1 : many == 16 && sector == 0 ? 2 : -1;
            if (kind < 0 || met[kind]) continue;
            met[kind] = true;
            DiskBudgets x = Checks.disk("disk 64 seek 1 rate 1;process a weight 1" + REST + "process b weight 1" + REST);
            DiskBudgets y = Checks.disk("disk 64 seek 1 rate 1;process a weight 1" + REST + "process b weight 1" + REST);
            x.seed(seed);
            C.same("the tick then", x.chance(1), ticks);
            C.same("the seed then", x.has(14), d);
            C.same("refused is nothing", x.status(3), 0);
            C.same("place of " + process, x.process(process, 3), kind == 1 ? 0 : sector + many);
            C.same("out or done", x.process(process, 5) + x.process(process, 9), kind == 1 ? 0 : 1);
            C.same("of the other", x.process(1 - process, 5) + x.process(1 - process, 9), 0);
            if (kind != 1) C.same("by hand", y.ask(process, sector, many), process);
            if (ticks > 0) y.ticks(ticks);
            for (int w = 0; w < 13; w++) C.same("process " + w, x.process(process, w), y.process(process, w));
            for (int w = 0; w < 13; w++) C.same("queue " + w, x.queue(process, w), y.queue(process, w));
        }
        C.same("up to the last sector, beyond it, 16 from 0", met[0] && met[1] && met[2], true);
    }

    /** 8 OUT: it does not ask, and what is drawn is drawn all the same. */
    private static void chanceWithEightOut() {
        DiskBudgets x = Checks.disk("disk 9999 seek 1 rate 1;process a weight 1" + REST);
        for (int i = 0; i < 8; i++) x.ask(0, 9000 + i, 1);
        x.seed(5);
        long drawn = 5;
        int ticks = 0;
        for (int i = 0; i < 40; i++) {
            drawn = step(drawn);
            if (i % 4 == 3) ticks += (int) (drawn / 64 % 8);
        }
        C.same("the ticks go", x.chance(10), ticks);
        C.same("the seed goes", x.has(14), drawn);
        C.same("eight out", x.process(0, 5), 8);
        C.same("refused is nothing", x.status(3), 0);
    }

    /** "n times by the seed (1 .. 40), one ACT" */
    private static void chanceIsOneAct() {
        DiskBudgets x = Checks.disk(TWO);
        DiskBudgets y = Checks.disk(TWO);
        x.ticks(3);
        y.ticks(3);
        x.chance(40);
        int seed = x.has(14);
        C.same("two acts", x.has(13), 2);
        C.same("undone", x.undo(), true);
        C.same("the seed stays", x.has(14), seed);
        y.seed(seed);
        Standing.same(C, "all of it is undone", x, y);
    }

    /** "x becomes (1103515245 x + 12345) mod 2 to the 31": from the greatest, and from 0. */
    private static void drawsGoRound() {
        for (int seed : new int[] {0, 1, MOST, MOST - 1, 1 << 30, 2147471302}) {
            DiskBudgets x = Checks.disk(TWO);
            x.seed(seed);
            x.chance(1);
            C.same("four draws from " + seed, x.has(14), step(step(step(step(seed)))));
        }
        C.same("from 0", step(0), 12345);
    }

    // ---- 39: undo

    /** "The last 20 can be undone." */
    private static void undoOfTwenty() {
        for (int acts : new int[] {1, 19, 20, 21, 25}) {
            DiskBudgets x = Checks.disk(TWO);
            for (int i = 1; i <= acts; i++) x.ticks(i);
            int can = Math.min(20, acts);
            C.same("acts", x.has(13), can);
            for (int i = 0; i < can; i++) {
                C.same("undo " + i, x.undo(), true);
                int left = acts - 1 - i;
                C.same("the tick", x.has(2), left * (left + 1) / 2);
                C.same("acts left", x.has(13), can - 1 - i);
            }
            C.same("no more", x.undo(), false);
            C.same("refused", x.status(4), 1);
            C.same("the tick stays", x.has(2), acts > 20 ? (acts - 20) * (acts - 19) / 2 : 0);
            C.same("then others", x.ticks(5) >= 0 && x.undo(), true);
            C.same("and no more", x.undo(), false);
        }
    }

    /** Each kind of ACT is undone, to all that it changed. */
    private static void undoOfEach() {
        undone("ticks", x -> x.ticks(200));
        undone("ask", x -> x.ask(0, 50, 9));
        undone("ask of a stream", x -> x.ask(1, 50, 9));
        undone("weight", x -> x.weight(0, 77));
        undone("idle", x -> x.idle(19));
        undone("slice", x -> x.slice(3));
        undone("off", x -> x.on(0, false));
        undone("many", x -> {
            for (int i = 0; i < 13; i++) x.ticks(7 * i + 1);
            for (int i = 0; i < 12; i++) x.undo();
        });
    }

    private static void undone(String what, Consumer<DiskBudgets> act) {
        undone(what, ActEdgesTest::past, act);
        undone(what + ", of a busy one", ActEdgesTest::busyPast, act);
    }

    private static void undone(String what, Consumer<DiskBudgets> past, Consumer<DiskBudgets> act) {
        DiskBudgets x = new DiskBudgets();
        DiskBudgets y = new DiskBudgets();
        past.accept(x);
        past.accept(y);
        act.accept(x);
        C.same(what + " is an act", x.has(13), y.has(13) + 1);
        C.same(what + ": undo", x.undo(), true);
        Standing.same(C, what + " is undone", x, y);
        x.ticks(44);
        y.ticks(44);
        C.same(what + ": and it goes on so", x.bits(0), y.bits(0));
    }

    /** What was KEPT and driven out by later ones is told again. */
    private static void undoOfMoreThanFortyKept() {
        String text = "disk 64 seek 64 rate 64;idle 0;process a weight 1 from 0 does at 5 take 1 think 1,at 9 take 2 think 2;";
        DiskBudgets x = Checks.disk(text);
        x.ticks(150);
        C.same("forty", x.has(11), 40);
        int[] before = kept(x);
        x.ticks(100);
        C.same("all are others", before[0] == x.kept(0, 0) || before[156] == x.kept(39, 0), false);
        x.undo();
        C.same("as before", Arrays.equals(kept(x), before), true);
        DiskBudgets y = Checks.disk(text);
        y.ticks(20);
        int few = y.has(11);
        y.on(0, false);
        y.ticks(50);
        C.same("one more at most", y.has(11) - few <= 1, true);
        y.undo();
        y.undo();
        y.ticks(50);
        y.undo();
        DiskBudgets z = Checks.disk(text);
        z.ticks(20);
        Standing.same(C, "few are kept, as before", y, z);
    }

    private static int[] kept(DiskBudgets x) {
        int[] all = new int[160];
        for (int i = 0; i < 160; i++) all[i] = x.kept(i / 4, i % 4);
        return all;
    }

    /** "(the seed, SEEN stay)" */
    private static void undoLeavesSeedAndSeen() {
        DiskBudgets x = Checks.disk(TWO);
        x.chance(3);
        int seed = x.has(14);
        Checks.put(x, 3, 0, 4, 6);
        x.see();
        x.image();
        x.undo();
        C.same("the seed", x.has(14), seed);
        C.same("seen", x.has(12), 2);
        C.same("the latest image", x.octet(0), 4);
        C.same("no more", x.undo(), false);
        x.chance(1);
        C.same("on from there", x.has(14), step(step(step(step(seed)))));
    }

    /** "false, refused (4), when none can be" */
    private static void undoOfNone() {
        DiskBudgets x = new DiskBudgets();
        C.same("without a disk", x.undo(), false);
        Checks.put(x, TWO);
        x.disk();
        C.same("a new disk", x.undo(), false);
        C.same("refused", x.status(4), 2);
        x.ticks(1);
        C.same("one", x.undo(), true);
        C.same("none", x.undo(), false);
        C.same("refused", x.status(4), 3);
        DiskBudgets y = Checks.disk(TWO);
        y.seed(9);
        DiskBudgets z = Checks.disk(TWO);
        z.seed(9);
        y.undo();
        Standing.same(C, "all stays", y, z);
    }

    // ---- 40: seed

    /** "false, refused (5), when it is below 0" */
    private static void seedFrom0() {
        DiskBudgets x = new DiskBudgets();
        C.same("without a disk", x.seed(7), true);
        C.same("told", x.has(14), 7);
        int[][] all = {{0, 1}, {-1, 0}, {MOST, 1}, {LEAST, 0}, {1, 1}};
        int last = 7;
        for (int[] s : all) {
            C.same("seed " + s[0], x.seed(s[0]), s[1] == 1);
            last = s[1] == 1 ? s[0] : last;
            C.same("told", x.has(14), last);
        }
        C.same("refused", x.status(5), 2);
        refused("seed -1", 5, y -> C.same("seed", y.seed(-1), false));
        refused("the least seed", 5, y -> C.same("seed", y.seed(LEAST), false));
    }

    private static void seedIsNoAct() {
        DiskBudgets x = Checks.disk(TWO);
        x.seed(5);
        C.same("no act", x.has(13), 0);
        C.same("not undone", x.undo(), false);
        C.same("told", x.has(14), 5);
    }

    // ---- acts that are refused, and without a disk

    /** What is refused can't be undone, and drives nothing out of the last 20. */
    private static void refusedAreNoActs() {
        DiskBudgets x = Checks.disk(TWO);
        for (int i = 0; i < 20; i++) x.ticks(1);
        x.ticks(0);
        x.chance(0);
        x.ask(0, 64, 1);
        x.weight(0, 3);
        x.idle(4);
        x.slice(40);
        x.on(0, true);
        C.same("twenty", x.has(13), 20);
        for (int i = 0; i < 20; i++) x.undo();
        C.same("all of them", x.has(2), 0);
    }

    private static void withoutADisk() {
        DiskBudgets x = new DiskBudgets();
        C.same("ticks", x.ticks(1), -1);
        C.same("chance", x.chance(1), -1);
        C.same("ask", x.ask(0, 0, 1), -1);
        C.same("weight", x.weight(0, 1), false);
        C.same("idle", x.idle(1), false);
        C.same("idle 0, as has(8) tells", x.idle(0), false);
        C.same("slice", x.slice(1), false);
        C.same("on", x.on(0, true), false);
        C.same("off", x.on(0, false), false);
        C.same("undo", x.undo(), false);
        int[] due = {0, 0, 2, 7, 1, 0};
        for (int k = 0; k < 6; k++) C.same("status " + k, x.status(k), due[k]);
        for (int w = 0; w < 15; w++) C.same("has " + w, x.has(w), w == 4 || w == 6 || w == 7 ? -1 : w == 14 ? 1 : 0);
    }

    /** ticks(), idle(), slice() ask for a disk; chance() for PROCESSES. */
    private static void withoutProcesses() {
        DiskBudgets x = Checks.disk("disk 64 seek 1 rate 1;");
        C.same("ticks", x.ticks(3), 3);
        C.same("idle", x.idle(1), true);
        C.same("slice", x.slice(1), true);
        C.same("chance", x.chance(1), -1);
        C.same("refused", x.status(2), 1);
        C.same("the seed stays", x.has(14), 1);
        C.same("acts", x.has(13), 3);
    }

    // ---- 41, 42: image, octet

    /** "how many bytes (3 without a disk)" */
    private static void imageWithoutADisk() {
        DiskBudgets x = new DiskBudgets();
        C.same("none yet", x.octet(0), -1);
        C.same("image", x.image(), 3);
        int[] due = {0, 0, 212};
        for (int k = 0; k < 3; k++) C.same("octet " + k, x.octet(k), due[k]);
        C.same("octet 3", x.octet(3), -1);
    }

    private static String text(int processes) {
        StringBuilder b = new StringBuilder("disk 64 seek 1 rate 1;idle 20;slice 200;");
        for (int p = 0; p < processes; p++) {
            b.append(p % 2 == 0 ? "process " : "stream ").append((char) ('a' + p)).append(" weight ").append(100 - p).append(REST);
        }
        return b.toString();
    }

    /** "idle, slice, of each PROCESS its weight and whether it is ON (1, 0); last a byte" */
    private static void imageOfEachCount() {
        for (int many = 0; many <= 6; many++) {
            DiskBudgets x = Checks.disk(text(many));
            if (many > 1) x.on(many - 1, false);
            C.same("image of " + many, x.image(), 3 + 2 * many);
            C.same("idle", x.octet(0), 20);
            C.same("slice", x.octet(1), 200);
            for (int p = 0; p < many; p++) {
                C.same("weight " + p, x.octet(2 + 2 * p), 100 - p);
                C.same("on " + p, x.octet(3 + 2 * p), many > 1 && p == many - 1 ? 0 : 1);
            }
            C.same("last", x.octet(2 + 2 * many) >= 0 && x.octet(2 + 2 * many) < 251, true);
            C.same("no more", x.octet(3 + 2 * many), -1);
        }
    }

    private static int last(int... ahead) {
        int c = 163;
        for (int b : ahead) c = (3 * c + b) % 251;
        return c;
    }

    /** "last a byte: all ahead from 163 on, c = (3 c + it) mod 251": also where it goes round to 0, and is 250. */
    private static void imageLastByte() {
        C.same("by hand: 3 * 163 is 489, less 251", last(0), 238);
        boolean zero = false;
        boolean most = false;
        DiskBudgets x = Checks.disk("disk 64 seek 1 rate 1;idle 0;");
        for (int slice = 1; slice <= 200; slice++) {
            if (slice == 101) x = Checks.disk("disk 64 seek 1 rate 1;idle 0;");
            x.slice(slice);
            x.image();
            int due = last(0, slice);
            C.same("slice " + slice, x.octet(2), due);
            zero |= due == 0;
            most |= due == 250;
        }
        DiskBudgets y = Checks.disk("disk 64 seek 1 rate 1;slice 200;");
        for (int idle = 0; idle <= 20; idle++) {
            y.idle(idle);
            y.image();
            int due = last(idle, 200);
            C.same("idle " + idle, y.octet(2), due);
            zero |= due == 0;
            most |= due == 250;
        }
        C.same("0 is among them", zero, true);
        C.same("250 is among them", most, true);
    }

    /** "Byte k of the latest image(); NONE when there is none such." */
    private static void octetsOfTheLatest() {
        DiskBudgets x = Checks.disk(text(2));
        for (int k : new int[] {-1, 0, 1, LEAST, MOST}) C.same("none yet " + k, x.octet(k), -1);
        C.same("image", x.image(), 7);
        x.idle(3);
        x.weight(0, 1);
        C.same("as it was then", x.octet(0), 20);
        C.same("as it was then", x.octet(2), 100);
        for (int k : new int[] {-1, 7, 8, LEAST, MOST}) C.same("octet " + k, x.octet(k), -1);
        C.same("the last", x.octet(6), last(20, 200, 100, 1, 99, 1));
        x.image();
        C.same("anew", x.octet(0), 3);
        Checks.put(x, text(1));
        x.disk();
        C.same("that of the former disk", x.octet(6) >= 0, true);
        C.same("image", x.image(), 5);
        C.same("shorter now", x.octet(5), -1);
        C.same("the last", x.octet(4) >= 0, true);
    }

    // ---- 43: take

    /** "true, idle, slice, weights, which are ON, are as it tells": at both ends of each. */
    private static void takeAsItTells() {
        int[][] all = {{0, 1, 1, 0, 1, 0}, {20, 200, 100, 1, 100, 1}, {4, 40, 3, 1, 1, 1}, {0, 200, 1, 1, 100, 0}};
        for (int[] ahead : all) {
            DiskBudgets x = Checks.disk(TWO);
            put(x, ahead);
            C.same("take", x.take(), true);
            C.same("idle", x.has(8), ahead[0]);
            C.same("slice", x.has(9), ahead[1]);
            for (int p = 0; p < 2; p++) {
                C.same("weight", x.process(p, 0), ahead[2 + 2 * p]);
                C.same("weight of the queue", x.queue(p, 8), ahead[2 + 2 * p]);
                C.same("on", x.process(p, 8), ahead[3 + 2 * p]);
            }
            C.same("the tape goes", x.end(1), false);
            C.same("nothing is refused", x.status(5), 0);
            C.same("image", x.image(), 7);
            for (int k = 0; k < 6; k++) C.same("octet " + k, x.octet(k), ahead[k]);
        }
    }

    private static void put(DiskBudgets x, int... ahead) {
        int[] bytes = Arrays.copyOf(ahead, ahead.length + 1);
        bytes[ahead.length] = last(ahead);
        Checks.put(x, bytes);
    }

    /** "AN IMAGE of this DISK": as many bytes as its PROCESSES ask for. */
    private static void takeLengths() {
        for (int many = 0; many <= 6; many++) {
            for (int told = 0; told <= 7; told++) {
                int[] ahead = new int[2 + 2 * told];
                Arrays.fill(ahead, 1);
                DiskBudgets x = Checks.disk(text(many));
                put(x, ahead);
                C.same(told + " told to " + many, x.take(), told == many);
            }
            for (int odd : new int[] {-1, 1}) {
                int[] ahead = new int[2 + 2 * many + odd];
                Arrays.fill(ahead, 1);
                DiskBudgets x = Checks.disk(text(many));
                put(x, ahead);
                C.same("a byte off " + odd, x.take(), false);
            }
            C.same("an empty tape", Checks.disk(text(many)).take(), false);
        }
    }

    /** What idle(), slice(), weight() would refuse, and what is neither 1 nor 0. */
    private static void takeNumbers() {
        int[] fair = {4, 40, 3, 1, 1, 0};
        int[][] all = {{0, 0, 1}, {0, 20, 1}, {0, 21, 0}, {0, 255, 0}, {1, 0, 0}, {1, 1, 1}, {1, 200, 1}, {1, 201, 0}, {1, 255, 0},
            {2, 0, 0}, {2, 1, 1}, {2, 100, 1}, {2, 101, 0}, {2, 255, 0}, {3, 0, 1}, {3, 1, 1}, {3, 2, 0}, {3, 255, 0},
            {4, 0, 0}, {4, 1, 1}, {4, 100, 1}, {4, 101, 0}, {5, 0, 1}, {5, 1, 1}, {5, 2, 0}, {5, 128, 0}};
        for (int[] s : all) {
            int[] ahead = fair.clone();
            ahead[s[0]] = s[1];
            DiskBudgets x = Checks.disk(TWO);
            put(x, ahead);
            C.same("byte " + s[0] + " is " + s[1], x.take(), s[2] == 1);
            C.same("refused", x.status(5), 1 - s[2]);
            if (s[2] == 0) {
                refused("take of " + s[0] + " " + s[1], 5, y -> {
                    put(y, ahead);
                    C.same("take", y.take(), false);
                });
            }
        }
    }

    /** One last byte alone is right; 251 and on never are, though they are like it by 251. */
    private static void takeLastByte() {
        int[] ahead = {4, 40, 3, 1, 1, 0};
        int right = last(ahead);
        for (int b = 0; b < 256; b++) {
            DiskBudgets x = Checks.disk(TWO);
            int[] bytes = Arrays.copyOf(ahead, 7);
            bytes[6] = b;
            Checks.put(x, bytes);
            C.same("last byte " + b, x.take(), b == right);
        }
        // One whose last byte is 0: 251 is none.
        C.same("0, 39", last(0, 39), 0);
        for (int b : new int[] {0, 251}) {
            DiskBudgets x = Checks.disk("disk 64 seek 1 rate 1;");
            Checks.put(x, 0, 39, b);
            C.same("0 or 251: " + b, x.take(), b == 0);
        }
    }

    /** "all else is as at first, nothing is KEPT or can be undone" */
    private static void takeAllElseAsAtFirst() {
        DiskBudgets x = new DiskBudgets();
        past(x);
        x.on(1, false);
        x.chance(20);
        x.ticks(100);
        x.seed(77);
        C.same("something is kept", x.has(11) > 0, true);
        int seen = x.has(12);
        int octet = x.octet(6);
        put(x, 9, 50, 7, 1, 8, 1);
        C.same("take", x.take(), true);
        C.same("nothing is kept", x.has(11), 0);
        C.same("nothing can be undone", x.has(13), 0);
        C.same("undo", x.undo(), false);
        C.same("the seed", x.has(14), 77);
        C.same("seen", x.has(12), seen);
        C.same("the latest image", x.octet(6), octet);
        DiskBudgets y = Checks.disk(TWO.replace("rate 1;", "rate 1;idle 9;slice 50;").replace("weight 3", "weight 7").replace("weight 1", "weight 8"));
        y.seed(77);
        Checks.put(y, 3, 0);
        y.see();
        C.same("image", x.image(), y.image());
        Standing.same(C, "all else is as at first", x, y);
        for (int i = 0; i < 3; i++) C.same("and goes on so", x.ticks(70), y.ticks(70));
        Standing.same(C, "and goes on so", x, y);
        DiskBudgets u = new DiskBudgets();
        busyPast(u);
        put(u, 2, 99, 9, 1, 5, 1, 2, 1);
        C.same("take", u.take(), true);
        DiskBudgets v = new DiskBudgets();
        busyPast(v);
        for (int i = 0; i < 4; i++) v.undo();
        Standing.same(C, "as at first, of a busy one", u, v);
    }

    /** "false, refused (5), all staying, when it is none" */
    private static void takeRefusedStays() {
        int[][] wrong = {{}, {4}, {4, 40, 212}, {4, 40, 3, 1, 1, 0, last(4, 40, 3, 1, 1, 0) ^ 1}, {4, 40, 3, 1, last(4, 40, 3, 1)},
            {4, 40, 3, 1, 1, 0, 1, 1, last(4, 40, 3, 1, 1, 0, 1, 1)}};
        for (int[] bytes : wrong) {
            refused("take of " + bytes.length, 5, x -> {
                if (bytes.length > 0) Checks.put(x, bytes);
                C.same("take", x.take(), false);
                C.same("the tape goes", x.feed(0, 0, 0, 0, 0), 20);
                x.end(0);
            });
        }
    }

    /** "or without a disk" */
    private static void takeWithoutADisk() {
        DiskBudgets x = new DiskBudgets();
        C.same("image", x.image(), 3);
        Checks.put(x, x.octet(0), x.octet(1), x.octet(2));
        C.same("that of none", x.take(), false);
        put(x, 4, 40);
        C.same("that of a disk without processes", x.take(), false);
        C.same("refused", x.status(5), 2);
        C.same("the tape goes", x.end(1), false);
    }

    // ---- 44: status

    /** "0 feed(), end(); 1 disk(); 2 ticks(), chance(); 3 ask(), weight(), idle(), slice(), on(); 4 undo(); 5 seed(), see(), take(). NONE for others." */
    private static void statusOfEach() {
        DiskBudgets x = Checks.disk(TWO);
        int[] due = new int[6];
        for (int round = 0; round < 3; round++) {
            counted(x, due, 0, y -> y.end(-1));
            counted(x, due, 1, DiskBudgets::disk);
            counted(x, due, 2, y -> y.ticks(0));
            counted(x, due, 2, y -> y.chance(0));
            counted(x, due, 3, y -> y.ask(9, 0, 1));
            counted(x, due, 3, y -> y.weight(9, 1));
            counted(x, due, 3, y -> y.idle(99));
            counted(x, due, 3, y -> y.slice(999));
            counted(x, due, 3, y -> y.on(9, true));
            counted(x, due, 4, DiskBudgets::undo);
            counted(x, due, 5, y -> y.seed(-1));
            counted(x, due, 5, DiskBudgets::see);
            counted(x, due, 5, DiskBudgets::take);
        }
        for (int w : new int[] {-1, 6, LEAST, MOST}) C.same("status " + w, x.status(w), -1);
        while (x.feed(0, 0, 0, 0, 0) > 0) continue;
        C.same("feed", x.status(0), due[0] + 1);
    }

    private static void counted(DiskBudgets x, int[] due, int number, Consumer<DiskBudgets> call) {
        call.accept(x);
        due[number]++;
        for (int k = 0; k < 6; k++) C.same("status " + k, x.status(k), due[k]);
    }
}
