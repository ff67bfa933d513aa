/** Promises 6 to 14: how a disk runs, tick by tick, with numbers found by hand. */
public final class RunningTest {
    private static final Checks C = new Checks();

    public static void main(String[] args) {
        twoByWeights();
        slices();
        idlesAndStops();
        seeky();
        thinksLong();
        nextOne();
        merges();
        streams();
        raises();
        placesAndSteps();
        keeps();
        leastStart();
        nineOut();
        noProcesses();
        C.close();
    }

    private static void twoByWeights() {
        DiskBudgets x = Checks.disk("disk 1000 seek 100 rate 8;budget 8 to 32;idle 2;slice 50;"
                + "process a weight 1 from 0 does on take 8 think 1;process b weight 2 from 0 does at 500 take 8 think 0;");
        C.same("budget at first", x.queue(0, 1), 20);
        C.same("top at first", x.has(10), 32);
        C.same("rate at first", x.bits(1), Checks.bits(8f));
        C.same("mean of none", x.mean(1), -1);
        x.ticks(7);
        int[] b = {2, 0, 1, 508, 0, 1, 1, 0, 1, 1, 8, 6, 6, -1};
        for (int w = 0; w < b.length; w++) C.same("process b " + w, x.process(1, w), b[w]);
        C.same("process -1", x.process(1, -1), -1);
        C.same("no process", x.process(2, 0), -1);
        int[] has = {1000, 2, 7, 508, 1, 2, 0, -1, 2, 50, 32, 0, 0, 1, 1, -1};
        for (int w = 0; w < has.length; w++) C.same("has " + w, x.has(w), has[w]);
        int[] one = {0, 20, 8, 508, 1, 0, 6, 0, 2, 0, 0, Checks.bits(10f), 0, -1};
        for (int w = 0; w < one.length; w++) C.same("queue 1 " + w, x.queue(1, w), one[w]);
        int[] none = {1, 20, 0, 8, 0, 0, 0, 0, 1, 1, 0, Checks.bits(20f), 0, -1};
        for (int w = 0; w < none.length; w++) C.same("queue 0 " + w, x.queue(0, w), none[w]);
        C.same("queue 2", x.queue(2, 0), -1);
        C.same("queue -1", x.queue(-1, 0), -1);
        C.same("now", x.bits(0), Checks.bits(8f / 3f));
        C.same("bits 2", x.bits(2), -1);
        C.same("mean", x.mean(1), Double.doubleToLongBits(6.0));
        C.same("lag", x.lag(0), Checks.bits(0f - 8f / 3f));
        x.ticks(2);
        int[] kept = {8, 1, 0, 16};
        for (int w = 0; w < 4; w++) C.same("kept " + w, x.kept(0, w), kept[w]);
        C.same("kept 4", x.kept(0, 4), -1);
        C.same("kept -1", x.kept(0, -1), -1);
        C.same("kept of none", x.kept(1, 0), -1);
        C.same("kept of -1", x.kept(-1, 0), -1);
        C.same("rate", x.bits(1), Checks.bits(7.25f));
        C.same("top", x.has(10), 32);
        C.same("budget, twice, not above", x.queue(1, 1), 32);
        C.same("start", x.queue(1, 10), Checks.bits(8f));
        C.same("finish", x.queue(1, 11), Checks.bits(24f));
        C.same("backlogged", x.queue(1, 9), 1);
        C.same("active", x.has(4), 0);
        C.same("began", x.has(6), 8);
        C.same("left", x.has(5), 7);
        C.same("mean of two", x.mean(1), Double.doubleToLongBits(4.0));
        x.ticks(7);
        C.same("until", x.has(7), 17);
        C.same("left", x.has(5), 0);
        C.same("head", x.has(3), 8);
        x.ticks(1);
        C.same("until while busy", x.has(7), -1);
        C.same("mean of thoughts", x.queue(0, 12), Checks.bits(0.125f));
        C.same("now", x.bits(0), Checks.bits(8f / 3f + 8f / 3f + 8f / 3f));
    }

    private static void slices() {
        DiskBudgets x = Checks.disk("disk 64 seek 64 rate 1;budget 1 to 999;idle 0;slice 5;"
                + "process a weight 1 from 0 does on take 3 think 0;");
        x.ticks(6);
        C.same("kept", x.has(11), 0);
        x.ticks(1);
        int[] kept = {6, 0, 1, 6};
        for (int w = 0; w < 4; w++) C.same("kept " + w, x.kept(0, w), kept[w]);
        C.same("top", x.has(10), 5);
        C.same("budget, served, not above top", x.queue(0, 1), 5);
        C.same("start", x.queue(0, 10), Checks.bits(6f));
        C.same("finish", x.queue(0, 11), Checks.bits(11f));
        C.same("active again", x.has(4), 0);
        C.same("began", x.has(6), 6);
        C.same("served", x.queue(0, 2), 0);
        C.same("now", x.bits(0), Checks.bits(6f));
    }

    private static void idlesAndStops() {
        DiskBudgets x = Checks.disk("disk 64 seek 64 rate 1;idle 3;process a weight 1 from 0 does on take 2 think 9;");
        x.ticks(3);
        C.same("until", x.has(7), 5);
        C.same("active", x.has(4), 0);
        C.same("served", x.queue(0, 2), 2);
        x.ticks(2);
        C.same("active below until", x.has(4), 0);
        C.same("until", x.has(7), 5);
        x.ticks(1);
        C.same("none at until", x.has(4), -1);
        C.same("until", x.has(7), -1);
        C.same("began", x.has(6), -1);
        int[] kept = {5, 0, 2, 2};
        for (int w = 0; w < 4; w++) C.same("kept " + w, x.kept(0, w), kept[w]);
        C.same("budget by half", x.queue(0, 1), 18);
        C.same("rate", x.bits(1), Checks.bits(0.875f + 2f / 5f * 0.125f));
        C.same("top", x.has(10), 37);
        C.same("finish is start", x.queue(0, 11), x.queue(0, 10));
        C.same("thinks", x.process(0, 1), 5);
        x.on(0, false);
        x.ask(0, 40, 20);
        C.same("jump", x.queue(0, 4), 1);
        x.ticks(1);
        C.same("by half, but served more", x.queue(0, 1), 18);
        x.idle(0);
        x.ticks(21);
        C.same("kept", x.kept(1, 0), 27);
        C.same("served", x.kept(1, 3), 20);
        C.same("how", x.kept(1, 2), 2);
        C.same("served instead of half", x.queue(0, 1), 20);
    }

    private static void seeky() {
        DiskBudgets x = Checks.disk("disk 1000 seek 500 rate 8;idle 9;process a weight 1 from 0 does at 100 take 1 think 3,at 500 take 1 think 3;");
        int jumps = 0;
        for (int i = 0; i < 60 && x.queue(0, 4) < 4; i++) x.ticks(1);
        C.same("four jumps", x.queue(0, 4), 4);
        C.same("not seeky", x.queue(0, 5), 0);
        C.same("nothing kept yet", x.has(11), 0);
        for (int i = 0; i < 60 && x.queue(0, 4) < 5; i++) x.ticks(1);
        C.same("seeky", x.queue(0, 5), 1);
        int done = x.process(0, 9);
        for (int i = 0; i < 60 && x.process(0, 9) == done; i++) x.ticks(1);
        C.same("no waiting for it", x.kept(0, 2), 2);
        C.same("at once", x.kept(0, 0), x.queue(0, 6));
        C.same("none active", x.has(4), -1);
        Checks.go(x, 100);
        C.same("eight at most", x.queue(0, 4), 8);
        for (int i = 0; i < 4; i++) x.ask(0, 100, 1);
        C.same("three like ones", x.queue(0, 4) <= 5, true);
    }

    private static void thinksLong() {
        DiskBudgets x = Checks.disk("disk 64 seek 64 rate 4;idle 4;process a weight 1 from 0 does on take 4 think 10;");
        float mean = 0f;
        int done = 1;
        for (int round = 0; round < 6; round++) {
            while (x.process(0, 9) < round + 1) x.ticks(1);
            C.same("waits or not in round " + round, x.has(4), mean <= 4f ? 0 : -1);
            mean = mean * 0.875f + 10f * 0.125f;
            while (x.process(0, 5) == 0) x.ticks(1);
            C.same("mean in round " + round, x.queue(0, 12), Checks.bits(mean));
        }
    }

    private static void nextOne() {
        DiskBudgets x = Checks.disk("disk 64 seek 64 rate 64;process a weight 1 from 99 does on take 1 think 0;process b weight 1 from 99 does on take 1 think 0;");
        C.same("none lies", x.next(0), -1);
        C.same("no queue", x.next(2), -1);
        C.same("no queue", x.next(-1), -1);
        C.same("not busy", x.request(-1, 0, 0), -1);
        x.ask(0, 30, 2);
        x.ticks(1);
        x.ask(0, 20, 1);
        x.ask(1, 60, 1);
        x.ask(0, 10, 1);
        x.ask(0, 40, 3);
        x.ask(0, 10, 2);
        C.same("b beside a", x.process(1, 6), 1);
        C.same("up from 0", x.next(0), 1);
        int[] busy = {30, 2, 0, 0, 1, -1};
        for (int w = 0; w < busy.length; w++) C.same("busy " + w, x.request(-1, 0, w), busy[w]);
        C.same("busy with one", x.request(-1, 1, 0), -1);
        int[] third = {40, 3, 0, 1, 1, -1};
        for (int w = 0; w < third.length; w++) C.same("third " + w, x.request(0, 2, w), third[w]);
        C.same("request 4", x.request(0, 4, 0), -1);
        C.same("request -1", x.request(0, -1, 0), -1);
        C.same("request what -1", x.request(0, 0, -1), -1);
        C.same("request of none", x.request(2, 0, 0), -1);
        C.same("request of -2", x.request(-2, 0, 0), -1);
        x.ticks(1);
        C.same("left", x.has(5), 1);
        x.ticks(1);
        C.same("up from 32", x.request(-1, 0, 0), 40);
        C.same("request behind it", x.request(0, 2, 0), 10);
        x.ticks(2);
        C.same("none above 43: the least, of like ones the first", x.request(-1, 0, 0), 10);
        C.same("one sector", x.request(-1, 0, 1), 1);
    }

    private static void merges() {
        DiskBudgets x = Checks.disk("disk 1000 seek 100 rate 8;near 20;process a weight 1 from 0 does on take 4 think 0;"
                + "process b weight 1 from 900 does at 10 take 4 think 200;stream s weight 1 from 900 does on take 1 think 0;");
        x.ticks(1);
        C.same("end", x.queue(0, 3), 4);
        C.same("21 from it", x.ask(1, 25, 1), 1);
        C.same("20 from it", x.ask(1, 24, 1), 0);
        C.same("sends to", x.process(1, 6), 0);
        C.same("lies there", x.request(0, 0, 2), 1);
        C.same("a stream does not merge", x.ask(2, 24, 1), 2);
        C.same("end", x.queue(0, 3), 25);
        C.same("a miss", x.ask(1, 900, 4), 0);
        C.same("misses", x.process(1, 7), 1);
        C.same("near: no misses", x.ask(1, 884, 4), 0);
        C.same("misses", x.process(1, 7), 0);
        C.same("a miss", x.ask(1, 0, 4), 0);
        C.same("a miss", x.ask(1, 100, 4), 0);
        C.same("misses", x.process(1, 7), 2);
        C.same("the third one", x.ask(1, 500, 4), 1);
        C.same("misses", x.process(1, 7), 0);
        C.same("its own", x.process(1, 6), 1);
        C.same("end of queue 0 stays", x.queue(0, 3), 104);
        C.same("merged again", x.ask(1, 90, 4), 0);
        DiskBudgets y = Checks.disk("disk 1000 seek 100 rate 1;stream s weight 1 from 0 does on take 4 think 0;process b weight 1 from 900 does at 10 take 4 think 200;");
        y.ticks(1);
        C.same("a stream is active", y.has(4), 0);
        C.same("none merges into a stream", y.ask(1, 4, 1), 1);
    }

    private static void streams() {
        DiskBudgets x = Checks.disk("disk 64 seek 64 rate 1;idle 20;stream s weight 1 from 1 does on take 30 think 1, on take 2 think 0;");
        x.ticks(2);
        C.same("thinks", x.process(0, 1), 1);
        C.same("waits never", x.process(0, 2), 0);
        C.same("next step", x.process(0, 4), 1);
        x.ticks(10);
        C.same("four out", x.process(0, 5), 4);
        C.same("the next step stays", x.process(0, 4), 0);
        C.same("thinks", x.process(0, 1), 0);
        C.same("mean stays", x.queue(0, 12), 0);
        DiskBudgets y = Checks.disk("disk 64 seek 64 rate 1;idle 20;stream s weight 1 from 0 does on take 2 think 30;");
        y.ticks(3);
        C.same("no waiting for a stream", y.kept(0, 0), 2);
        C.same("none active", y.has(4), -1);
        Checks.go(y, 30);
        C.same("two done", y.process(0, 9), 1);
        C.same("busy again", y.has(4), 0);
        C.same("no mean", y.queue(0, 12), 0);
    }

    private static void raises() {
        DiskBudgets x = Checks.disk("disk 64 seek 1 rate 1;idle 0;raise 3 for 4 rest 5;process a weight 2 from 4 does on take 2 think 5;process b weight 1 from 99 does on take 1 think 0;");
        x.ticks(5);
        C.same("rest of 4", x.queue(0, 7), 0);
        C.same("weight", x.queue(0, 8), 2);
        C.same("finish", x.queue(0, 11), Checks.bits(18f));
        x.ticks(7);
        C.same("rest of 5", x.queue(0, 7), 15);
        C.same("raised", x.queue(0, 8), 6);
        C.same("weight of the process", x.process(0, 0), 2);
        x.ticks(2);
        C.same("below 15", x.queue(0, 8), 6);
        x.ticks(1);
        C.same("at 15", x.queue(0, 8), 2);
        DiskBudgets y = Checks.disk("disk 64 seek 1 rate 1;process a weight 2 from 999 does on take 2 think 4;");
        Checks.go(y, 1000);
        C.same("999 without: the tick itself", y.queue(0, 7), 999);
        C.same("but not raised", y.queue(0, 8), 2);
    }

    private static void placesAndSteps() {
        DiskBudgets x = Checks.disk("disk 64 seek 64 rate 64;idle 0;process a weight 1 from 0 does on take 30 think 0, at 50 take 10 think 0, on take 4 think 0, on take 1 think 0;");
        int[] places = {30, 60, 64, 1, 31};
        for (int i = 0; i < places.length; i++) {
            while (x.process(0, 9) < i) x.ticks(1);
            if (i == 0) x.ticks(1);
            C.same("place " + i, x.process(0, 3), places[i]);
            C.same("step " + i, x.process(0, 4), (i + 1) % 4);
        }
        C.same("head behind the last sector", x.process(0, 11) >= 4, true);
    }

    private static void keeps() {
        DiskBudgets x = Checks.disk("disk 64 seek 64 rate 64;idle 0;process a weight 1 from 0 does at 5 take 1 think 2;");
        Checks.go(x, 199);
        int told = x.has(11);
        C.same("forty", told, 40);
        C.same("none behind", x.kept(40, 0), -1);
        int newest = x.kept(39, 0);
        for (int k = 0; k < 40; k++) C.same("each fourth tick " + k, x.kept(k, 0), newest - 4 * (39 - k));
        C.same("newest", newest, x.queue(0, 6));
    }

    /** Now leaps to the least start if no start is that low. */
    private static void leastStart() {
        DiskBudgets x = Checks.disk("disk 999 seek 500 rate 64;idle 0;near 0;budget 8 to 8;"
                + "process a weight 1 from 99 does on take 1 think 0;process b weight 100 from 99 does on take 1 think 0;");
        x.ask(0, 0, 64);
        x.ask(0, 100, 64);
        x.ask(1, 500, 64);
        x.ask(1, 600, 64);
        x.ticks(1);
        C.same("b first: its finish is less", x.has(4), 1);
        x.ticks(2);
        C.same("b's start is above now", x.has(4), 0);
        C.same("its start", x.queue(1, 10), Checks.bits(0.64f));
        C.same("now", x.bits(0), Checks.bits(64f / 101f));
        x.ticks(5);
        C.same("b again", x.has(4), 1);
        x.ticks(1);
        C.same("a is left", x.has(4), 0);
        C.same("its start", x.queue(0, 10), Checks.bits(64f));
        C.same("now leapt to it", x.bits(0), Checks.bits(64f));
        for (int k = 0; k < 3; k++) C.same("how " + k, x.kept(k, 2), k == 2 ? 2 : 0);
        for (int k = 0; k < 3; k++) C.same("when " + k, x.kept(k, 0), 2 + 3 * k);
    }

    private static void nineOut() {
        DiskBudgets x = Checks.disk("disk 64 seek 1 rate 1;process a weight 1 from 1 does on take 1 think 0;");
        for (int i = 0; i < 8; i++) C.same("by hand", x.ask(0, i, 1), 0);
        C.same("the ninth by hand", x.ask(0, 9, 1), -1);
        x.ticks(1);
        C.same("busy", x.queue(0, 0), 7);
        x.ticks(1);
        C.same("by its step, too", x.process(0, 5), 8);
        DiskBudgets y = Checks.disk("disk 64 seek 1 rate 1;process a weight 1 from 0 does on take 1 think 0;");
        for (int i = 0; i < 8; i++) y.ask(0, 9, 1);
        y.ticks(1);
        C.same("nine out", y.process(0, 5), 9);
        C.same("by hand no more", y.ask(0, 9, 1), -1);
        C.same("of a step", y.request(0, 7, 4), 0);
        StringBuilder six = new StringBuilder("disk 64 seek 1 rate 1;near 999;");
        for (char c = 'a'; c <= 'f'; c++) six.append("process ").append(c).append(" weight 1 from 1 does on take 1 think 0;");
        DiskBudgets z = Checks.disk(six.toString());
        z.ask(0, 0, 64);
        z.ticks(1);
        for (int p = 0; p < 6; p++) for (int i = 0; i < (p == 0 ? 7 : 8); i++) C.same("all to one", z.ask(p, 9, 1), 0);
        z.ticks(1);
        C.same("53 lie there", z.queue(0, 0), 53);
        for (int p = 0; p < 6; p++) C.same("nine out", z.process(p, 5), 9);
        C.same("the last one", z.request(0, 52, 2), 5);
        for (int p = 0; p < 6; p++) z.on(p, false);
        Checks.go(z, 400);
        for (int p = 0; p < 6; p++) C.same("all done", z.process(p, 9), 9);
    }

    private static void noProcesses() {
        DiskBudgets x = Checks.disk("disk 64 seek 1 rate 7;idle 3;");
        C.same("ticks", x.ticks(5), 5);
        C.same("sectors", x.has(0), 64);
        C.same("none active", x.has(4), -1);
        C.same("now", x.bits(0), 0);
        C.same("rate", x.bits(1), Checks.bits(7f));
        C.same("queue", x.queue(0, 0), -1);
        C.same("gain", x.gain(5, 0), 0);
        C.same("idling", x.idling(5, 0), -1);
        C.same("slicing", x.slicing(5, 0), -1);
        C.same("apart", x.apart(5), -1);
        C.same("chance", x.chance(1), -1);
        C.same("fits", x.fits(), (1 << 21) - 1);
        C.same("tells", x.tells(0), 1);
        C.same("tells", x.tells(1), 21);
        C.same("expiry", x.expiry(0, 0), -1);
        C.same("worst", x.worst(5, 0), -1);
        C.same("latest", x.latest(5, 0, 0), -1);
    }
}
