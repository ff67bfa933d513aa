import java.util.Random;

/** Random runs of calls, right and wrong ones, answered by the class and by the oracle alike. */
public final class RandomRunsTest {
    private static final int RUNS = 400;
    private static final int CALLS = 512;
    private static int wrong = 0;

    private final Random random;
    private final DiskBudgets x = new DiskBudgets();
    private final Oracle o = new Oracle();
    private final StringBuilder log = new StringBuilder();
    private int calls = 0;

    private RandomRunsTest(long seed) {
        random = new Random(seed);
    }

    public static void main(String[] args) {
        for (int run = 0; run < RUNS && wrong < 5; run++) {
            RandomRunsTest test = new RandomRunsTest(run);
            try {
                test.run();
            } catch (RuntimeException e) {
                wrong++;
                System.out.println("run " + run + " ended with " + e + "\n" + test.tail());
                e.printStackTrace(System.out);
            }
        }
        System.out.println(wrong == 0 ? "all answers are as the oracle's" : wrong + " runs went apart");
        if (wrong != 0) System.exit(1);
    }

    private String tail() {
        return log.substring(Math.max(0, log.length() - 1500));
    }

    private void same(String call, long got, long want) {
        calls++;
        log.append(call).append(" = ").append(got).append('\n');
        if (got != want) throw new IllegalStateException(call + " answered " + got + ", the oracle " + want);
    }

    private int any(int n) {
        return random.nextInt(n);
    }

    private int from(int low, int high) {
        return low + random.nextInt(high - low + 1);
    }

    private boolean one(int in) {
        return random.nextInt(in) == 0;
    }

    private int wild(int low, int high) {
        if (!one(14)) return from(low, high);
        int[] odd = {low - 1, high + 1, Integer.MIN_VALUE, Integer.MAX_VALUE, -1, 0, 64, 1000};
        return odd[any(odd.length)];
    }

    private void run() {
        if (one(3)) ask();
        tape(text());
        same("disk", x.disk(), o.disk());
        while (calls < CALLS) {
            if (one(60)) {
                tape(text());
                same("disk", x.disk(), o.disk());
            } else if (one(3)) {
                act();
            } else {
                ask();
            }
            if (one(25)) everything();
        }
    }

    private void tape(String text) {
        int length = text.length();
        for (int i = 0; i < length; i += 20) {
            int[] five = new int[5];
            for (int k = 0; k < 20; k++) {
                int c = i + k < length ? text.charAt(i + k) : any(256);
                five[k / 4] |= c << (24 - 8 * (k % 4));
            }
            same("feed", x.feed(five[0], five[1], five[2], five[3], five[4]), o.feed(five));
        }
        if (!one(40)) same("end " + length, x.end(length) ? 1 : 0, o.end(length) ? 1 : 0);
        log.append("tape: ").append(text).append('\n');
    }

    // ---- texts

    private String blank() {
        return one(12) ? (one(2) ? "\n" : "  ") : "";
    }

    private String join(Object... parts) {
        StringBuilder b = new StringBuilder();
        for (Object part : parts) b.append(b.length() == 0 ? "" : " ").append(blank()).append(part);
        return b.toString();
    }

    private String text() {
        int sectors = one(3) ? 64 : one(2) ? from(64, 400) : from(64, 9999);
        StringBuilder b = new StringBuilder();
        b.append(join("disk", sectors, "seek", one(2) ? from(1, 60) : from(1, 500), "rate",
                one(2) ? from(1, 8) : from(1, 64))).append(';');
        int least = from(1, one(2) ? 20 : 999);
        if (one(2)) b.append(join("budget", least, "to", from(least, one(3) ? 999 : least + 40 > 999 ? 999 : least + 40))).append(';');
        if (one(2)) b.append(join("idle", from(0, 20))).append(blank()).append(';');
        if (one(2)) b.append(join("slice", one(2) ? from(1, 20) : from(1, 200))).append(';');
        if (one(2)) b.append(join("near", one(2) ? from(0, 60) : from(0, 999))).append(';');
        if (one(2)) b.append(join("raise", from(1, 20), "for", from(0, one(2) ? 30 : 500), "rest", one(2) ? from(1, 20) : from(1, 999))).append(';');
        int processes = one(10) ? from(0, 7) : from(1, 6);
        for (int i = 0; i < processes; i++) b.append(process(i, sectors)).append(';').append(blank());
        String s = b.toString();
        if (one(3)) s = spoil(s);
        return s.length() > 1600 ? s.substring(0, 1600) : s;
    }

    private String process(int i, int sectors) {
        boolean stream = one(4);
        StringBuilder b = new StringBuilder();
        String name = one(3) ? "abcdefgh".substring(i, i + 1) : "p" + (char) ('a' + i) + "xyzv".substring(0, any(5));
        b.append(join(stream ? "stream" : "process", name, "weight", one(2) ? from(1, 5) : from(1, 100),
                "from", one(2) ? from(0, 10) : from(0, 99), "does "));
        int steps = from(1, one(3) ? 6 : 2);
        boolean far = one(3);
        int home = any(sectors);
        for (int k = 0; k < steps; k++) {
            if (k > 0) b.append(one(2) ? ", " : ",");
            int think = one(2) ? from(0, 3) : one(2) ? from(0, 20) : from(0, 200);
            if (stream || one(2)) {
                b.append(join("on", "take", one(2) ? from(1, 8) : from(1, 64), "think", think));
            } else {
                int at = far ? any(sectors) : Math.min(sectors - 1, home + any(20));
                b.append(join("at", at, "take", from(1, Math.min(sectors - at, one(2) ? 8 : 64)), "think", think));
            }
        }
        return b.toString();
    }

    private String spoil(String s) {
        String[] odd = {"at", "on", "disk", "idle 3;", ",", ";", "7", "12345", "x", "abcdefg", "process", "stream",
                " ", "\n", "\t", "A", "\u00e9", "\0", "budget 9 to 8", "near", "weight", ", at 3 take 2 think 1",
                ", on take 1 think 1, on take 1 think 1, on take 1 think 1, on take 1 think 1, on take 1 think 1, on take 1 think 1"};
        String[] words = s.split(" ");
        int i = any(s.length() + 1);
        switch (any(6)) {
            case 0: return s.substring(0, i);
            case 1: return s.substring(0, i) + odd[any(odd.length)] + s.substring(i);
            case 2: return s.substring(0, i) + s.substring(Math.min(s.length(), i + from(1, 3)));
            case 3: return s + s.substring(s.indexOf(';') + 1);
            case 4:
                words[any(words.length)] = odd[any(odd.length)];
                return String.join(" ", words);
            default:
                words[any(words.length)] = "" + from(0, 10001);
                return String.join(" ", words);
        }
    }

    // ---- calls

    private int proc() {
        return o.count() > 0 && !one(15) ? any(o.count()) : wild(0, 6);
    }

    private void act() {
        int a, b, c;
        switch (any(12)) {
            case 0: case 1: case 2: case 3:
                a = one(2) ? wild(1, 6) : wild(1, 200);
                same("ticks " + a, x.ticks(a), o.ticks(a));
                break;
            case 4: case 5:
                a = proc();
                b = one(2) ? wild(0, 80) : wild(0, 9999);
                c = wild(1, one(2) ? 64 : 8);
                same("ask " + a + " " + b + " " + c, x.ask(a, b, c), o.ask(a, b, c));
                break;
            case 6:
                a = proc();
                b = wild(1, 100);
                same("weight " + a + " " + b, x.weight(a, b) ? 1 : 0, o.weight(a, b) ? 1 : 0);
                break;
            case 7:
                a = wild(0, 20);
                if (one(2)) same("idle " + a, x.idle(a) ? 1 : 0, o.idle(a) ? 1 : 0);
                else same("slice " + a, x.slice(a) ? 1 : 0, o.slice(a) ? 1 : 0);
                break;
            case 8:
                a = proc();
                boolean on = !one(3);
                same("on " + a + " " + on, x.on(a, on) ? 1 : 0, o.on(a, on) ? 1 : 0);
                break;
            case 9:
                a = wild(1, one(2) ? 5 : 40);
                same("chance " + a, x.chance(a), o.chance(a));
                break;
            case 10:
                a = one(4) ? from(1, 25) : 1;
                for (int i = 0; i < a; i++) same("undo", x.undo() ? 1 : 0, o.undo() ? 1 : 0);
                break;
            default:
                images();
                break;
        }
    }

    private void images() {
        switch (any(4)) {
            case 0:
                int seed = wild(0, Integer.MAX_VALUE - 1);
                same("seed " + seed, x.seed(seed) ? 1 : 0, o.seed(seed) ? 1 : 0);
                break;
            case 1:
                StringBuilder rows = new StringBuilder();
                int n = one(10) ? from(0, 18) : from(1, 3);
                for (int i = 0; i < n; i++) {
                    int t = wild(1, 60) & 255;
                    int q = t <= 60 && o.has() ? o.course(any(21))[t] : wild(0, 6) & 255;
                    rows.append((char) t).append((char) (one(30) ? any(8) : q));
                }
                if (one(12)) rows.append('\1');
                tape(rows.toString());
                same("see", x.see(), o.see());
                break;
            case 2:
                same("image", x.image(), o.image());
                break;
            default:
                StringBuilder b = new StringBuilder();
                for (int i = 0; i < o.image.length; i++) b.append((char) o.image[i]);
                if (b.length() > 2 && one(2)) respell(b);
                if (one(8) && b.length() > 0) b.setCharAt(any(b.length()), (char) any(256));
                if (one(8)) b.append((char) any(256));
                tape(b.toString());
                if (one(2)) same("take", x.take() ? 1 : 0, o.take() ? 1 : 0);
                break;
        }
    }

    /** Another number in an image, with the right last byte. */
    private void respell(StringBuilder b) {
        b.setCharAt(any(b.length() - 1), (char) (one(2) ? any(102) : any(256)));
        int c = 163;
        for (int i = 0; i < b.length() - 1; i++) c = (3 * c + b.charAt(i)) % 251;
        b.setCharAt(b.length() - 1, (char) c);
    }

    private void ask() {
        int n = one(2) ? wild(0, 100) : wild(0, 400);
        int p = proc();
        int w = wild(0, 3);
        int a = one(2) ? wild(0, 10) : wild(0, 60);
        switch (any(26)) {
            case 0: same("later " + n + " " + p + " " + w, x.later(n, p, w), o.later(n, p, w)); break;
            case 1: same("share " + n + " " + p, x.share(n, p), o.share(n, p)); break;
            case 2: same("when " + p + " " + a, x.when(p, a), o.when(p, a)); break;
            case 3: same("late " + n + " " + p + " " + a, x.late(n, p, a), o.late(n, p, a)); break;
            case 4: same("alone " + n + " " + p, x.alone(n, p), o.alone(n, p)); break;
            case 5: n = wild(1, 200); w = wild(0, 1); same("idling " + n + " " + w, x.idling(n, w), o.idling(n, w)); break;
            case 6: n = wild(1, 200); w = wild(0, 1); same("gain " + n + " " + w, x.gain(n, w), o.gain(n, w)); break;
            case 7: same("apart " + n, x.apart(n), o.apart(n)); break;
            case 8: w = wild(0, 1); same("latest " + n + " " + a + " " + w, x.latest(n, a, w), o.latest(n, a, w)); break;
            case 9: n = wild(1, 100); a = one(2) ? wild(1, 200) : a; same("least " + n + " " + p + " " + a, x.least(n, p, a), o.least(n, p, a)); break;
            case 10: same("expiry " + a + " " + w, x.expiry(a, w), o.expiry(a, w)); break;
            case 11: w = wild(0, 1); same("worst " + n + " " + w, x.worst(n, w), o.worst(n, w)); break;
            case 12: n = wild(1, one(3) ? 100 : 30); w = wild(0, 1); same("slicing " + n + " " + w, x.slicing(n, w), o.slicing(n, w)); break;
            case 13: same("lag " + p, x.lag(p), o.lag(p)); break;
            case 14: same("fits", x.fits(), o.fits()); break;
            case 15: if (one(3)) { w = wild(0, 1); same("tells " + w, x.tells(w), o.tells(w)); } break;
            case 16: w = wild(0, 14); same("has " + w, x.has(w), o.has(w)); break;
            case 17: w = wild(0, 12); same("process " + p + " " + w, x.process(p, w), o.process(p, w)); break;
            case 18: w = wild(0, 12); same("queue " + p + " " + w, x.queue(p, w), o.queue(p, w)); break;
            case 19: w = wild(0, 1); same("bits " + w, x.bits(w), o.bits(w)); break;
            case 20: p = one(3) ? -1 : p; a = wild(0, 3); w = wild(0, 4); same("request " + p + " " + a + " " + w, x.request(p, a, w), o.request(p, a, w)); break;
            case 21: same("next " + p, x.next(p), o.next(p)); break;
            case 22: same("kept " + a + " " + w, x.kept(a, w), o.kept(a, w)); break;
            case 23: same("mean " + p, x.mean(p), o.mean(p)); same("letter " + p + " " + a, x.letter(p, a), o.letter(p, a)); break;
            case 24: w = wild(0, 5); same("status " + w, x.status(w), o.status(w)); same("octet " + a, x.octet(a), o.octet(a)); break;
            default: w = wild(0, 1); same("fault " + w, x.fault(w), o.fault(w)); break;
        }
    }

    /** The whole standing, not counted as calls. */
    private void everything() {
        int before = calls;
        for (int w = 0; w < 16; w++) same("has " + w, x.has(w), o.has(w));
        for (int w = 0; w < 3; w++) same("bits " + w, x.bits(w), o.bits(w));
        for (int w = 0; w < 3; w++) same("fault " + w, x.fault(w), o.fault(w));
        for (int w = 0; w < 7; w++) same("status " + w, x.status(w), o.status(w));
        for (int p = -1; p < 7; p++) {
            for (int w = 0; w < 14; w++) same("process " + p + " " + w, x.process(p, w), o.process(p, w));
            for (int w = 0; w < 14; w++) same("queue " + p + " " + w, x.queue(p, w), o.queue(p, w));
            for (int k = 0; k < 12; k++)
                for (int w = -1; w < 6; w++)
                    same("request " + p + " " + k + " " + w, x.request(p, k, w), o.request(p, k, w));
            for (int k = 0; k < 7; k++) same("letter " + p + " " + k, x.letter(p, k), o.letter(p, k));
            same("next " + p, x.next(p), o.next(p));
            same("mean " + p, x.mean(p), o.mean(p));
            same("lag " + p, x.lag(p), o.lag(p));
        }
        for (int k = 0; k < 41; k++)
            for (int w = -1; w < 5; w++) same("kept " + k + " " + w, x.kept(k, w), o.kept(k, w));
        for (int k = -1; k < 17; k++) same("octet " + k, x.octet(k), o.octet(k));
        calls = before;
    }
}
