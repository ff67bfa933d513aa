import java.util.function.ToLongFunction;

/** The edges of promises 1 to 14: the tape, the disk, and what there is. */
public final class AnswerEdgesTest {
    private static final Checks C = new Checks();
    private static final String D = "disk 64 seek 1 rate 1;";
    private static final String TWO = "disk 64 seek 64 rate 1;idle 3;process ab weight 3 from 0 does on take 2 think 3;stream zyxwvu weight 1 from 2 does on take 5 think 9;";
    private static final int LEAST = Integer.MIN_VALUE;
    private static final int MOST = Integer.MAX_VALUE;

    public static void main(String[] args) {
        newObject();
        feedUpTo1600();
        feedRefusedStays();
        feedHighestFirst();
        endWithin();
        endFirstBytesAlone();
        endRefusedStays();
        theTapeGoes();
        diskRefusedStays();
        diskAsAtFirst();
        diskTellsItsOwn();
        diskKeepsSeedImageRefusals();
        diskOfTheWholeTape();
        faultOfTheLatest();
        faultAheadOfAny();
        hasFromNothing();
        hasBusyAndActive();
        hasTop();
        hasCounts();
        letters();
        processes();
        thinksWhileItWaits();
        means();
        queues();
        servedIfActive();
        bitsOfBoth();
        requestsOfAQueue();
        requestItIsBusyWith();
        nextOfNone();
        nextAmongItsOwn();
        keptOnes();
        withSixProcesses();
        withoutProcesses();
        C.close();
    }

    // ---- 1: a new object

    /** "No disk, no processes; the seed is 1." */
    private static void newObject() {
        DiskBudgets x = new DiskBudgets();
        for (int w = 0; w <= 14; w++) C.same("has " + w, x.has(w), w == 4 || w == 6 || w == 7 ? -1 : w == 14 ? 1 : 0);
        for (int k = 0; k < 6; k++) C.same("status " + k, x.status(k), 0);
        none("letter", x, y -> y.letter(0, 0));
        none("process", x, y -> y.process(0, 0));
        none("mean", x, y -> y.mean(0));
        none("queue", x, y -> y.queue(0, 0));
        none("bits", x, y -> y.bits(0));
        none("request", x, y -> y.request(0, 0, 0));
        none("busy", x, y -> y.request(-1, 0, 0));
        none("next", x, y -> y.next(0));
        none("kept", x, y -> y.kept(0, 0));
        none("octet", x, y -> y.octet(0));
        C.same("the tape is empty", x.end(1), false);
        C.same("to its end", x.end(0), true);
    }

    private static void none(String what, DiskBudgets x, ToLongFunction<DiskBudgets> call) {
        C.same("without a disk: " + what, call.applyAsLong(x), -1);
    }

    // ---- 2: feed

    /** "how many there are; NONE, refused (0), if there would be more than 1600" */
    private static void feedUpTo1600() {
        DiskBudgets x = new DiskBudgets();
        for (int i = 1; i <= 80; i++) C.same("feed " + i, x.feed(0, 0, 0, 0, 0), 20 * i);
        C.same("the 81st", x.feed(0, 0, 0, 0, 0), -1);
        C.same("refused", x.status(0), 1);
        for (int[] s : new int[][] {{1581, -1}, {1580, 1600}, {1599, -1}, {1579, 1599}, {1, 21}, {0, 20}}) {
            C.same("end " + s[0], x.end(s[0]), true);
            C.same("feed behind " + s[0], x.feed(0, 0, 0, 0, 0), s[1]);
            while (x.feed(0, 0, 0, 0, 0) >= 0) continue;
        }
    }

    private static void feedRefusedStays() {
        DiskBudgets x = new DiskBudgets();
        Checks.put(x, D);
        while (x.feed(0x20202020, 0x20202020, 0x20202020, 0x20202020, 0x20202020) > 0) continue;
        C.same("how many there are", x.end(1603), false);
        C.same("22 and 78 times 20", x.end(1582), true);
        C.same("more would be too many", x.feed(0x3b3b3b3b, 0x3b3b3b3b, 0x3b3b3b3b, 0x3b3b3b3b, 0x3b3b3b3b), -1);
        C.same("as many as before", x.end(1583), false);
        C.same("refused", x.status(0), 4);
        C.same("the text stays", x.disk(), 1);
        Standing.stays(C, "feed", y -> {
            past(y);
            for (int i = 0; i < 80; i++) y.feed(1, 2, 3, 4, 5);
        }, y -> C.same("feed", y.feed(1, 2, 3, 4, 5), -1), 0);
    }

    /** "Twenty bytes come behind those on the tape, of each number the highest first" */
    private static void feedHighestFirst() {
        for (int k = 0; k < 20; k++) {
            int[] five = new int[5];
            for (int i = 0; i < 20; i++) five[i / 4] |= (i == k ? 255 : 32) << (24 - 8 * (i % 4));
            DiskBudgets x = new DiskBudgets();
            x.feed(five[0], five[1], five[2], five[3], five[4]);
            x.disk();
            C.same("the odd byte", x.fault(1), k);
            x.feed(0x20202020, 0x20202020, 0x20202020, 0x20202020, 0x20202020);
            x.feed(five[0], five[1], five[2], five[3], five[4]);
            x.disk();
            C.same("behind twenty others", x.fault(1), 20 + k);
        }
    }

    // ---- 3: end

    /** "true; false, refused (0), if it has not so many, or n is below 0" */
    private static void endWithin() {
        for (int fed = 0; fed <= 80; fed += 40) {
            int length = 20 * fed;
            int[][] all = {{length, 1}, {length + 1, 0}, {-1, 0}, {LEAST, 0}, {MOST, 0}, {0, 1}};
            for (int[] s : all) {
                DiskBudgets x = new DiskBudgets();
                for (int i = 0; i < fed; i++) x.feed(0, 0, 0, 0, 0);
                C.same("end " + s[0] + " of " + length, x.end(s[0]), s[1] == 1);
                C.same("refused", x.status(0), 1 - s[1]);
            }
        }
    }

    /** "The tape has its first n bytes alone" */
    private static void endFirstBytesAlone() {
        DiskBudgets x = new DiskBudgets();
        Checks.put(x, D + "x");
        C.same("but the last", x.end(22), true);
        C.same("that is gone", x.end(23), false);
        C.same("the disk", x.disk(), 1);
        Checks.put(x, D + "idle 3;xxx");
        x.end(22);
        C.same("what comes then is behind these", x.feed(0x69646c65, 0x20353b20, 0x20202020, 0x20202020, 0x20202020), 42);
        C.same("the disk", x.disk(), 2);
        C.same("idle", x.has(8), 5);
        Checks.put(x, D);
        x.end(0);
        x.disk();
        C.same("nothing", x.fault(1), 0);
    }

    private static void endRefusedStays() {
        for (int n : new int[] {-1, 23, LEAST, MOST}) {
            DiskBudgets x = new DiskBudgets();
            Checks.put(x, D);
            C.same("end " + n, x.end(n), false);
            C.same("as many as before", x.end(22), true);
            C.same("the text stays", x.disk(), 1);
            Standing.stays(C, "end " + n, AnswerEdgesTest::past, y -> C.same("end", y.end(n), false), 0);
        }
    }

    // ---- 4: disk

    /** "The tape (it goes)": with a FAULT and without one. */
    private static void theTapeGoes() {
        DiskBudgets x = new DiskBudgets();
        Checks.put(x, D);
        x.disk();
        C.same("without a fault", x.end(1), false);
        Checks.put(x, "disk 63");
        x.disk();
        C.same("with one", x.end(1), false);
        C.same("it begins anew", x.feed(0, 0, 0, 0, 0), 20);
    }

    /** What most tests of what stays begin with: something of everything. */
    private static void past(DiskBudgets x) {
        Checks.put(x, TWO);
        x.disk();
        x.seed(77);
        x.ticks(5);
        x.ask(0, 40, 3);
        x.ticks(12);
        x.weight(1, 9);
        x.ask(1, 9, 2);
        x.image();
        Checks.put(x, 9, 6, 4, 0);
        x.see();
        x.ticks(1);
    }

    /** "NONE, refused (1), with a FAULT (all stays ..)" */
    private static void diskRefusedStays() {
        String[] texts = {"", "x", "disk 63", D + "idle 1;idle 2;", D + "process a weight 1 from 0 does at 64",
            D + "stream a weight 1 from 0 does at", "disk 99 seek 9 rate 9;budget 1 to 3;idle 9;slice 9;near 9;raise 9 for 9 rest 9;process c weight 9 from 9 does on take 9 think 9;process c"};
        int[] kinds = {1, 1, 2, 5, 2, 6, 3};
        for (int i = 0; i < texts.length; i++) {
            String text = texts[i];
            int kind = kinds[i];
            Standing.stays(C, "disk() of " + text, AnswerEdgesTest::past, y -> {
                Checks.put(y, text);
                C.same("disk", y.disk(), -1);
                C.same("fault", y.fault(0), kind);
            }, 1);
        }
        DiskBudgets x = new DiskBudgets();
        Checks.put(x, "disk 64 seek 1 rate 1;process a weight 1 from 0 does on take 1 think 1;x");
        C.same("a fault at the end", x.disk(), -1);
        for (int w = 0; w <= 14; w++) C.same("no disk still: has " + w, x.has(w), w == 4 || w == 6 || w == 7 ? -1 : w == 14 ? 1 : 0);
    }

    /** Some that wait, with steps behind them, some raised; something kept and seen. */
    private static void busyPast(DiskBudgets x) {
        Checks.put(x, "disk 99 seek 9 rate 1;budget 1 to 30;idle 2;slice 9;near 9;raise 9 for 300 rest 1;process abcdef weight 9 from 3 does on take 9 think 0,on take 4 think 0,on take 7 think 1;"
                + "process b weight 5 from 4 does at 12 take 8 think 0,at 30 take 5 think 0;stream c weight 2 from 0 does on take 3 think 2,on take 1 think 5;");
        x.disk();
        x.seed(77);
        x.idle(20);
        x.slice(200);
        x.weight(2, 77);
        x.ticks(60);
        x.ask(0, 0, 64);
        x.ticks(8);
        Checks.put(x, 9, 6);
        x.see();
    }

    /** "Without one all is as at first, nothing is KEPT, SEEN or can be undone; the seed stays." */
    private static void diskAsAtFirst() {
        DiskBudgets busy = new DiskBudgets();
        busyPast(busy);
        boolean waits = false;
        boolean steps = false;
        boolean raised = false;
        for (int i = 0; i < 30; i++) {
            for (int p = 0; p < 3; p++) {
                waits |= busy.process(p, 2) == 1;
                steps |= busy.process(p, 4) != 0;
                raised |= busy.queue(p, 7) != 0;
            }
            if (i % 3 == 2) busy.ticks(1);
        }
        C.same("some wait, have steps behind them, are raised", waits && steps && raised, true);
        String[] texts = {TWO, D, D + "process a weight 1 from 0 does on take 1 think 1;",
            "disk 64 seek 64 rate 1;process a weight 2 from 0 does on take 2 think 3,on take 1 think 0;process b weight 1 from 5 does at 3 take 1 think 0;process d weight 1 from 2 does on take 2 think 1;",
            "disk 99 seek 9 rate 9;budget 1 to 3;idle 9;slice 9;near 9;raise 9 for 9 rest 9;process c weight 9 from 0 does on take 9 think 9;"};
        for (String text : texts) {
            DiskBudgets x = new DiskBudgets();
            // Twice: what is kept of the former two disks must not show.
            busyPast(x);
            busyPast(x);
            Checks.put(x, text);
            x.disk();
            DiskBudgets y = Checks.disk(text);
            y.seed(77);
            Standing.same(C, "as at first: " + text, x, y);
            C.same("no acts", x.undo(), false);
            C.same("nothing kept", x.has(11), 0);
            C.same("nothing seen", x.has(12), 0);
            C.same("all fit", x.fits(), (1 << 21) - 1);
            x.ticks(150);
            y.ticks(150);
            Standing.same(C, "and goes on so: " + text, x, y);
        }
    }

    /** What is told without the five is told so behind any other disk. */
    private static void diskTellsItsOwn() {
        DiskBudgets x = new DiskBudgets();
        for (int i = 0; i < 2; i++) {
            Checks.put(x, D + "budget 1 to 3;idle 1;slice 3;near 3;raise 9 for 500 rest 1;process abcdef weight 9 from 9 does on take 9 think 9;process b weight 9 from 9 does on take 9 think 9;");
            C.same("disk", x.disk(), 8);
        }
        Checks.put(x, D + "process a weight 2 from 999 does on take 1 think 1;");
        C.same("disk", x.disk(), 2);
        C.same("one process", x.has(1), 1);
        C.same("no second letter", x.letter(0, 1), 0);
        C.same("idle", x.has(8), 4);
        C.same("slice", x.has(9), 40);
        C.same("top", x.has(10), 64);
        C.same("budget", x.queue(0, 1), 36);
        x.ask(0, 16, 1);
        C.same("16 is near", x.queue(0, 4), 0);
        x.ask(0, 34, 1);
        C.same("17 is far", x.queue(0, 4), 1);
        Checks.go(x, 1000);
        C.same("no rest of 1", x.queue(0, 7), 0);
        Checks.put(x, D + "process a weight 2 from 999 does on take 1 think 1;");
        x.disk();
        Checks.go(x, 1000);
        C.same("rest of 999, for 0", x.queue(0, 7), 999);
        C.same("not raised", x.queue(0, 8), 2);
    }

    private static void diskKeepsSeedImageRefusals() {
        DiskBudgets x = Checks.disk(TWO);
        x.seed(123);
        x.image();
        x.undo();
        x.ticks(0);
        int last = x.octet(6);
        Checks.put(x, D);
        C.same("disk", x.disk(), 1);
        C.same("the seed", x.has(14), 123);
        C.same("the latest image", x.octet(6), last);
        C.same("refused undo", x.status(4), 1);
        C.same("refused ticks", x.status(2), 1);
    }

    /** A text of 1600 bytes, the last of them its last sign. */
    private static void diskOfTheWholeTape() {
        StringBuilder b = new StringBuilder("disk 64 seek 1 rate 1;");
        for (char c = 'a'; c <= 'f'; c++) {
            b.append("process ").append(c).append(" weight 1 from 0 does on take 1 think 1");
            for (int i = 0; i < 5; i++) b.append(" , on take 0001 think 0001");
            b.append(";");
        }
        String text = b.toString();
        StringBuilder blanks = new StringBuilder();
        while (blanks.length() + text.length() < 1600) blanks.append(' ');
        DiskBudgets x = new DiskBudgets();
        String whole = blanks + text;
        for (int i = 0; i < 1600; i += 20) {
            int[] five = new int[5];
            for (int k = 0; k < 20; k++) five[k / 4] |= whole.charAt(i + k) << (24 - 8 * (k % 4));
            C.same("feed", x.feed(five[0], five[1], five[2], five[3], five[4]), i + 20);
        }
        C.same("the disk", x.disk(), 7);
        C.same("six", x.has(1), 6);
        // 1600 signs, each by itself; 1600 blanks; 1600 letters; 1600 digits.
        int[][] all = {{0x3b, 1, 0}, {0x20, 1, 1600}, {0x61, 1, 0}, {0x30, 1, 0}};
        for (int[] s : all) {
            int four = s[0] * 0x01010101;
            for (int i = 0; i < 80; i++) x.feed(four, four, four, four, four);
            C.same("no disk", x.disk(), -1);
            C.same("fault of " + s[0], x.fault(0), s[1]);
            C.same("place of " + s[0], x.fault(1), s[2]);
        }
        C.same("six still", x.has(1), 6);
    }

    // ---- 5: fault

    /** "Of the latest disk(): its FAULT (what 0; 0 without ..), its place (1; NONE without). NONE for another what." */
    private static void faultOfTheLatest() {
        DiskBudgets x = new DiskBudgets();
        String[] texts = {D, "disk 63", D, "", " ", D + "process a weight 1 from 0 does on take 1 think 1;stream a", D};
        int[][] due = {{0, -1}, {2, 5}, {0, -1}, {1, 0}, {1, 1}, {3, 78}, {0, -1}};
        for (int i = 0; i < texts.length; i++) {
            Checks.put(x, texts[i]);
            x.disk();
            C.same("fault of " + texts[i], x.fault(0), due[i][0]);
            C.same("place of " + texts[i], x.fault(1), due[i][1]);
            for (int w : new int[] {-1, 2, LEAST, MOST}) C.same("fault " + w, x.fault(w), -1);
        }
        Checks.put(x, "disk 63");
        x.disk();
        x.ticks(5);
        x.undo();
        x.see();
        x.take();
        C.same("it stays till the next", x.fault(0), 2);
        C.same("its place, too", x.fault(1), 5);
    }

    /** "(what 0; 0 without, and ahead of any)" */
    private static void faultAheadOfAny() {
        DiskBudgets x = new DiskBudgets();
        C.same("fault", x.fault(0), 0);
        C.same("place", x.fault(1), -1);
        C.same("another", x.fault(2), -1);
        Checks.put(x, "disk 63");
        C.same("on the tape alone", x.fault(0), 0);
    }

    // ---- 6: has

    /** "NONE for others" */
    private static void hasFromNothing() {
        DiskBudgets x = Checks.disk(TWO);
        for (int w : new int[] {-1, 15, LEAST, MOST}) {
            C.same("has " + w, x.has(w), -1);
            C.same("has without a disk " + w, new DiskBudgets().has(w), -1);
        }
        int[] due = {64, 2, 0, 0, -1, 0, -1, -1, 3, 40, 64, 0, 0, 0, 1};
        for (int w = 0; w < due.length; w++) C.same("has " + w, x.has(w), due[w]);
    }

    /** "4 the QUEUE that is ACTIVE (NONE: none), 5 LEFT (0: not BUSY), 6 BEGAN, 7 UNTIL (6, 7: NONE, if none is ACTIVE; 7 also while requests lie in it, or it is BUSY)" */
    private static void hasBusyAndActive() {
        DiskBudgets x = Checks.disk("disk 64 seek 64 rate 1;idle 2;process a weight 1 from 1 does on take 2 think 9;");
        // behind each tick: active, left, began, until
        int[][] due = {{-1, 0, -1, -1}, {0, 2, 1, -1}, {0, 1, 1, -1}, {0, 0, 1, 5}, {0, 0, 1, 5}, {-1, 0, -1, -1}};
        for (int t = 0; t < due.length; t++) {
            x.ticks(1);
            for (int w = 0; w < 4; w++) C.same("behind tick " + t + ", has " + (4 + w), x.has(4 + w), due[t][w]);
        }
        for (int i = 0; i < 2; i++) x.undo();
        C.same("until again", x.has(7), 5);
        x.ask(0, 5, 1);
        C.same("one lies", x.has(7), -1);
        C.same("active", x.has(4), 0);
        C.same("began", x.has(6), 1);
        C.same("not busy", x.has(5), 0);
    }

    /** "10 TOP (MOST, before any EXPIRED)" */
    private static void hasTop() {
        DiskBudgets x = Checks.disk("disk 64 seek 64 rate 1;idle 2;slice 9;budget 3 to 77;process a weight 1 from 0 does on take 2 think 9;");
        x.ticks(4);
        C.same("before", x.has(10), 77);
        x.ticks(1);
        C.same("expired", x.has(11), 1);
        C.same("top: 0.875 and 0.0625, times 9", x.has(10), 8);
        x.slice(200);
        C.same("it stays when slice is told anew", x.has(10), 8);
        x.undo();
        x.undo();
        C.same("undone", x.has(10), 77);
    }

    /** "11 told as KEPT, 12 rows SEEN, 13 ACTS that can be undone, 14 the seed" */
    private static void hasCounts() {
        DiskBudgets x = Checks.disk(TWO);
        for (int i = 1; i <= 22; i++) {
            x.weight(0, 10 + i);
            C.same("acts", x.has(13), Math.min(20, i));
        }
        for (int i = 19; i >= 0; i--) {
            x.undo();
            C.same("acts", x.has(13), i);
        }
        Checks.put(x, 1, 0, 2, 0, 60, 6);
        x.see();
        C.same("seen", x.has(12), 3);
        x.seed(0);
        C.same("the seed", x.has(14), 0);
        x.seed(MOST);
        C.same("the seed", x.has(14), MOST);
    }

    // ---- 7 to 9

    /** "Letter k (0 .. 5) of the NAME of a PROCESS: 1 .. 26; 0 behind it; NONE when there is none such." */
    private static void letters() {
        DiskBudgets x = Checks.disk(TWO);
        int[][] due = {{1, 2, 0, 0, 0, 0}, {26, 25, 24, 23, 22, 21}};
        for (int p = 0; p < 2; p++) {
            for (int k = 0; k < 6; k++) C.same("letter " + p + " " + k, x.letter(p, k), due[p][k]);
            for (int k : new int[] {-1, 6, LEAST, MOST}) C.same("letter " + p + " " + k, x.letter(p, k), -1);
        }
        for (int p : new int[] {-1, 2, 6, LEAST, MOST}) C.same("letter of " + p, x.letter(p, 0), -1);
        Checks.put(x, D + "process c weight 1 from 0 does on take 1 think 1;");
        x.disk();
        C.same("another disk", x.letter(0, 0), 3);
        C.same("nothing of the former one", x.letter(0, 1), 0);
        C.same("one alone", x.letter(1, 0), -1);
    }

    /** "NONE when there is none such, or for others" */
    private static void processes() {
        DiskBudgets x = Checks.disk(TWO);
        for (int p = 0; p < 2; p++) {
            for (int w = 0; w <= 12; w++) C.same("process " + p + " " + w, x.process(p, w) >= 0, true);
            for (int w : new int[] {-1, 13, LEAST, MOST}) C.same("process " + p + " " + w, x.process(p, w), -1);
        }
        for (int p : new int[] {-1, 2, LEAST, MOST}) for (int w = 0; w <= 12; w++) C.same("process " + p + " " + w, x.process(p, w), -1);
    }

    /** "1 THINKS (0 while it WAITS), 2 whether it WAITS" */
    private static void thinksWhileItWaits() {
        DiskBudgets x = Checks.disk("disk 64 seek 64 rate 1;process a weight 1 from 2 does on take 2 think 7;");
        int[][] due = {{1, 0}, {0, 0}, {0, 1}, {0, 1}, {6, 0}, {5, 0}};
        for (int t = 0; t < due.length; t++) {
            x.ticks(1);
            C.same("thinks behind tick " + t, x.process(0, 1), due[t][0]);
            C.same("waits behind tick " + t, x.process(0, 2), due[t][1]);
        }
    }

    /** "a double, as bits (doubleToLongBits); -1 when none is DONE, or there is none such" */
    private static void means() {
        DiskBudgets x = Checks.disk("disk 64 seek 64 rate 1;idle 0;process a weight 1 from 999 does on take 1 think 1;process b weight 1 from 999 does on take 1 think 1;");
        x.ask(0, 0, 1);
        x.ticks(1);
        C.same("not done", x.mean(0), -1);
        x.ticks(1);
        C.same("done: 1", x.mean(0), Double.doubleToLongBits(1.0));
        C.same("b", x.mean(1), -1);
        x.ask(0, 1, 3);
        x.ticks(5);
        C.same("1 and 3", x.mean(0), Double.doubleToLongBits(2.0));
        x.ask(0, 4, 1);
        x.ticks(5);
        C.same("and 1: no whole number", x.mean(0), Double.doubleToLongBits(5.0 / 3.0));
        for (int p : new int[] {-1, 2, LEAST, MOST}) C.same("mean of " + p, x.mean(p), -1);
        DiskBudgets y = Checks.disk("disk 9999 seek 1 rate 1;process a weight 1 from 999 does on take 1 think 1;");
        y.ask(0, 9990, 1);
        Checks.go(y, 9992);
        C.same("a long one", y.mean(0), Double.doubleToLongBits(9991.0));
    }

    // ---- 10 to 14

    private static void queues() {
        DiskBudgets x = Checks.disk(TWO);
        for (int q = 0; q < 2; q++) {
            for (int w = 0; w <= 12; w++) C.same("queue " + q + " " + w, x.queue(q, w) >= 0, true);
            for (int w : new int[] {-1, 13, LEAST, MOST}) C.same("queue " + q + " " + w, x.queue(q, w), -1);
        }
        for (int q : new int[] {-1, 2, LEAST, MOST}) for (int w = 0; w <= 12; w++) C.same("queue " + q + " " + w, x.queue(q, w), -1);
    }

    /** "2 SERVED (0, if it is not ACTIVE)" */
    private static void servedIfActive() {
        DiskBudgets x = Checks.disk("disk 64 seek 64 rate 1;idle 2;process a weight 1 from 0 does on take 2 think 9;process b weight 1 from 999 does on take 1 think 1;");
        int[] due = {0, 0, 2, 2, 0, 0};
        for (int t = 0; t < due.length; t++) {
            x.ticks(1);
            C.same("served behind tick " + t, x.queue(0, 2), due[t]);
            C.same("served of b", x.queue(1, 2), 0);
        }
    }

    /** "NONE for others, or without a disk" */
    private static void bitsOfBoth() {
        DiskBudgets x = Checks.disk("disk 64 seek 1 rate 3;");
        C.same("now", x.bits(0), 0);
        C.same("rate", x.bits(1), Checks.bits(3f));
        for (int w : new int[] {-1, 2, LEAST, MOST}) C.same("bits " + w, x.bits(w), -1);
        for (int w = -1; w <= 2; w++) C.same("bits without a disk " + w, new DiskBudgets().bits(w), -1);
    }

    /** "Of the k-th request that lies in a QUEUE, as they came .. NONE when there is none such, or for others." */
    private static void requestsOfAQueue() {
        DiskBudgets x = Checks.disk("disk 64 seek 64 rate 1;near 0;process a weight 1 from 999 does on take 1 think 1;process b weight 1 from 999 does on take 1 think 1;");
        C.same("none lies", x.request(0, 0, 0), -1);
        int[][] asked = {{0, 50, 3}, {1, 5, 4}, {0, 20, 5}, {0, 30, 6}, {1, 1, 7}};
        for (int[] s : asked) x.ask(s[0], s[1], s[2]);
        int[][] due = {{50, 3, 0, 0, 1}, {20, 5, 0, 0, 1}, {30, 6, 0, 0, 1}};
        for (int k = 0; k < 3; k++) for (int w = 0; w < 5; w++) C.same("request 0 " + k + " " + w, x.request(0, k, w), due[k][w]);
        C.same("of b", x.request(1, 1, 0), 1);
        for (int k : new int[] {-1, 3, LEAST, MOST}) C.same("request 0 " + k, x.request(0, k, 0), -1);
        C.same("request 1 2", x.request(1, 2, 0), -1);
        for (int w : new int[] {-1, 5, LEAST, MOST}) C.same("what " + w, x.request(0, 0, w), -1);
        for (int q : new int[] {-2, 2, LEAST, MOST}) C.same("queue " + q, x.request(q, 0, 0), -1);
        x.ticks(1);
        C.same("20 goes: 50 stays the first", x.request(0, 0, 0), 50);
        C.same("30 is the second", x.request(0, 1, 0), 30);
        C.same("no third", x.request(0, 2, 0), -1);
        C.same("20 it is", x.request(-1, 0, 0), 20);
        // One that a STEP asked for; by 8 by hand and 1 by its STEP nine are out.
        DiskBudgets y = Checks.disk("disk 64 seek 64 rate 1;process a weight 1 from 1 does on take 1 think 1;");
        for (int i = 0; i < 8; i++) y.ask(0, 40, 1);
        C.same("eight lie", y.request(0, 7, 4), 1);
        C.same("no ninth", y.request(0, 8, 4), -1);
        y.ticks(2);
        C.same("seven, and that of the step", y.request(0, 7, 4), 0);
        C.same("asked at", y.request(0, 7, 3), 1);
        C.same("no ninth", y.request(0, 8, 4), -1);
    }

    /** "(NONE as QUEUE, k 0: what it is BUSY with)" */
    private static void requestItIsBusyWith() {
        DiskBudgets x = Checks.disk("disk 64 seek 64 rate 1;process a weight 1 from 3 does on take 2 think 9;");
        for (int w = -1; w <= 5; w++) C.same("not busy " + w, x.request(-1, 0, w), -1);
        x.ticks(4);
        int[] due = {0, 2, 0, 3, 0};
        for (int w = 0; w < 5; w++) C.same("busy " + w, x.request(-1, 0, w), due[w]);
        for (int w : new int[] {-1, 5, LEAST, MOST}) C.same("busy " + w, x.request(-1, 0, w), -1);
        for (int k : new int[] {-1, 1, LEAST, MOST}) C.same("busy k " + k, x.request(-1, k, 0), -1);
        x.ticks(1);
        C.same("one left", x.request(-1, 0, 1), 2);
        x.ticks(1);
        C.same("done: not busy", x.request(-1, 0, 1), -1);
        C.same("though active", x.has(4), 0);
    }

    /** "NONE when none lies there, or there is none such" */
    private static void nextOfNone() {
        DiskBudgets x = Checks.disk(TWO);
        C.same("none lies", x.next(0), -1);
        x.ask(0, 5, 1);
        C.same("one lies", x.next(0), 0);
        C.same("in the other none", x.next(1), -1);
        x.ticks(1);
        C.same("busy with one, that of the step lies", x.next(0), 0);
        for (int q : new int[] {-1, 2, LEAST, MOST}) C.same("next of " + q, x.next(q), -1);
    }

    /** "Which of the requests that lie in a QUEUE is NEXT (as in request())": those of other queues do not count. */
    private static void nextAmongItsOwn() {
        DiskBudgets x = Checks.disk("disk 64 seek 64 rate 1;near 0;process a weight 1 from 999 does on take 1 think 1;process b weight 1 from 999 does on take 1 think 1;");
        int[][] asked = {{0, 50, 0}, {1, 40, 0}, {0, 30, 1}, {1, 20, 1}, {1, 10, 2}, {0, 10, 2}, {0, 10, 2}, {1, 11, 2}};
        for (int[] s : asked) {
            x.ask(s[0], s[1], 1);
            int due = x.next(s[0]);
            C.same("next behind " + s[0] + " " + s[1], due, s[2]);
            for (int k = 0; k < x.queue(s[0], 0); k++) C.same("none is less", x.request(s[0], k, 0) >= x.request(s[0], due, 0), true);
        }
        C.same("of a", x.next(0), 2);
        C.same("of b", x.next(1), 2);
    }

    /** "the k-th from the oldest on .. NONE when there is none such, or for others" */
    private static void keptOnes() {
        DiskBudgets x = Checks.disk("disk 64 seek 64 rate 1;idle 0;near 0;process a weight 1 from 0 does on take 2 think 9;process b weight 1 from 2 does at 40 take 3 think 9;");
        C.same("nothing", x.kept(0, 0), -1);
        x.ticks(3);
        C.same("one", x.kept(0, 3), 2);
        C.same("not two", x.kept(1, 3), -1);
        x.ticks(4);
        int[][] due = {{2, 0, 2, 2}, {6, 1, 2, 3}};
        for (int k = 0; k < 2; k++) for (int w = 0; w < 4; w++) C.same("kept " + k + " " + w, x.kept(k, w), due[k][w]);
        for (int k : new int[] {-1, 2, 40, LEAST, MOST}) C.same("kept " + k, x.kept(k, 0), -1);
        for (int w : new int[] {-1, 4, LEAST, MOST}) C.same("kept what " + w, x.kept(0, w), -1);
    }

    /** The last of six is there, a seventh is not. */
    private static void withSixProcesses() {
        StringBuilder b = new StringBuilder("disk 64 seek 1 rate 1;");
        for (char c = 'a'; c <= 'f'; c++) b.append("process ").append(c).append(" weight ").append(c - 'a' + 1).append(" from 999 does on take 1 think 1;");
        DiskBudgets x = Checks.disk(b.toString());
        x.ask(5, 3, 1);
        C.same("letter", x.letter(5, 0), 6);
        C.same("process", x.process(5, 0), 6);
        C.same("queue", x.queue(5, 0), 1);
        C.same("request", x.request(5, 0, 2), 5);
        C.same("next", x.next(5), 0);
        C.same("lag", x.lag(5), 0);
        C.same("mean", x.mean(5), -1);
        x.ticks(5);
        C.same("mean", x.mean(5), Double.doubleToLongBits(4.0));
        C.same("letter", x.letter(6, 0), -1);
        C.same("process", x.process(6, 0), -1);
        C.same("queue", x.queue(6, 0), -1);
        C.same("request", x.request(6, 0, 2), -1);
        C.same("next", x.next(6), -1);
        C.same("lag", x.lag(6), -1);
        C.same("mean", x.mean(6), -1);
        C.same("ask", x.ask(6, 0, 1), -1);
    }

    /** A disk without processes is a disk. */
    private static void withoutProcesses() {
        DiskBudgets x = Checks.disk(D);
        int[] due = {64, 0, 0, 0, -1, 0, -1, -1, 4, 40, 64, 0, 0, 0, 1};
        for (int w = 0; w < due.length; w++) C.same("has " + w, x.has(w), due[w]);
        C.same("letter", x.letter(0, 0), -1);
        C.same("process", x.process(0, 0), -1);
        C.same("queue", x.queue(0, 0), -1);
        C.same("request", x.request(0, 0, 0), -1);
        C.same("busy", x.request(-1, 0, 0), -1);
        C.same("next", x.next(0), -1);
        C.same("mean", x.mean(0), -1);
        C.same("now", x.bits(0), 0);
        C.same("ticks", x.ticks(200), 200);
        C.same("idle", x.idle(0), true);
        C.same("slice", x.slice(1), true);
        C.same("on", x.on(0, false), false);
        C.same("weight", x.weight(0, 2), false);
        C.same("ask", x.ask(0, 0, 1), -1);
        C.same("undo", x.undo(), true);
        C.same("slice", x.has(9), 40);
    }
}
