/** What the tests share: a counted comparison, and texts and bytes put on the tape. */
final class Checks {
    private int wrong = 0;
    private int made = 0;

    void same(String what, long got, long want) {
        made++;
        if (got != want) {
            wrong++;
            System.out.println(what + " answered " + got + ", due is " + want);
        }
    }

    void same(String what, boolean got, boolean want) {
        same(what, got ? 1 : 0, want ? 1 : 0);
    }

    /** Ends the test: 1 if an answer was wrong. */
    void close() {
        System.out.println(made + " answers, " + wrong + " not as due");
        if (wrong != 0 || made == 0) System.exit(1);
    }

    static int bits(float f) {
        return Float.floatToIntBits(f);
    }

    static void put(DiskBudgets x, String text) {
        int old = x.feed(0, 0, 0, 0, 0) - 20;
        x.end(old);
        for (int i = 0; i < text.length(); i += 20) {
            int[] five = new int[5];
            for (int k = 0; k < 20; k++) {
                int c = i + k < text.length() ? text.charAt(i + k) : ' ';
                five[k / 4] |= (c & 255) << (24 - 8 * (k % 4));
            }
            x.feed(five[0], five[1], five[2], five[3], five[4]);
        }
        x.end(old + text.length());
    }

    static void put(DiskBudgets x, int... bytes) {
        StringBuilder b = new StringBuilder();
        for (int c : bytes) b.append((char) c);
        put(x, b.toString());
    }

    static DiskBudgets disk(String text) {
        DiskBudgets x = new DiskBudgets();
        put(x, text);
        if (x.disk() < 0) throw new IllegalStateException("fault " + x.fault(0) + " at " + x.fault(1) + ": " + text);
        return x;
    }

    /** So many ticks, also more than one call takes. */
    static void go(DiskBudgets x, int ticks) {
        for (int left = ticks; left > 0; left -= 200) {
            int n = Math.min(left, 200);
            if (x.ticks(n) < 0) throw new IllegalStateException("ticks refused");
        }
    }
}
