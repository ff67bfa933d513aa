import java.util.ArrayList;
import java.util.List;
import java.util.function.Consumer;

/**
 * All that the calls tell of an object, as lines, for tests of what stays and what is as at first.
 * Two objects with the same past are held beside one another, so that no object is asked too often.
 */
final class Standing {
    private Standing() { }

    /** What is refused is counted, and a FAULT told, by themselves: status() and fault() are not among these. */
    static List<String> of(DiskBudgets x) {
        List<String> l = new ArrayList<>();
        for (int w = 0; w < 15; w++) l.add("has " + w + ": " + x.has(w));
        for (int w = 0; w < 2; w++) l.add("bits " + w + ": " + x.bits(w));
        for (int w = 0; w < 5; w++) l.add("busy " + w + ": " + x.request(-1, 0, w));
        for (int p = 0; p < x.has(1); p++) ofProcess(x, p, l);
        for (int k = 0; k < x.has(11); k++)
            for (int w = 0; w < 4; w++) l.add("kept " + k + " " + w + ": " + x.kept(k, w));
        for (int k = 0; k < 16; k++) l.add("octet " + k + ": " + x.octet(k));
        l.add("fits: " + x.fits());
        l.add("tells: " + x.tells(0) + " " + x.tells(1));
        l.add("gain: " + x.gain(90, 0) + " " + x.gain(90, 1));
        for (int w = 0; w < 4; w++) l.add("expiry " + w + ": " + x.expiry(1, w));
        return l;
    }

    private static void ofProcess(DiskBudgets x, int p, List<String> l) {
        for (int k = 0; k < 6; k++) l.add("letter " + p + " " + k + ": " + x.letter(p, k));
        for (int w = 0; w < 13; w++) l.add("process " + p + " " + w + ": " + x.process(p, w));
        for (int w = 0; w < 13; w++) l.add("queue " + p + " " + w + ": " + x.queue(p, w));
        for (int k = 0; k < x.queue(p, 0); k++)
            for (int w = 0; w < 5; w++) l.add("request " + p + " " + k + " " + w + ": " + x.request(p, k, w));
        l.add("mean " + p + ": " + x.mean(p));
        l.add("next " + p + ": " + x.next(p));
        l.add("lag " + p + ": " + x.lag(p));
        for (int w = 0; w < 4; w++) l.add("later " + p + " " + w + ": " + x.later(90, p, w));
    }

    /** The first line in which they are unlike is printed. */
    static void same(Checks c, String what, DiskBudgets x, DiskBudgets y) {
        List<String> a = of(x);
        List<String> b = of(y);
        int i = 0;
        while (i < a.size() && i < b.size() && a.get(i).equals(b.get(i))) i++;
        boolean all = i == a.size() && i == b.size();
        if (!all) System.out.println(what + ": " + (i < a.size() ? a.get(i) : "-") + " | " + (i < b.size() ? b.get(i) : "-"));
        c.same(what, all, true);
    }

    /**
     * A refused call on an object with this past is counted by its number alone, and leaves all else
     * as it is in another object with the same past, now and behind more ticks.
     */
    static void stays(Checks c, String what, Consumer<DiskBudgets> past, Consumer<DiskBudgets> refused, int number) {
        DiskBudgets x = new DiskBudgets();
        DiskBudgets y = new DiskBudgets();
        past.accept(x);
        past.accept(y);
        refused.accept(x);
        for (int k = 0; k < 6; k++) c.same(what + ": status " + k, x.status(k), y.status(k) + (k == number ? 1 : 0));
        same(c, what + ": all stays", x, y);
        c.same(what + ": ticks", x.ticks(7), y.ticks(7));
        c.same(what + ": has 3", x.has(3), y.has(3));
        c.same(what + ": undo", x.undo(), y.undo());
        c.same(what + ": has 2", x.has(2), y.has(2));
    }
}
