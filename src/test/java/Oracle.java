import java.util.ArrayDeque;
import java.util.ArrayList;
import java.util.Arrays;
import java.util.Deque;
import java.util.HashMap;
import java.util.List;
import java.util.Map;
import java.util.Set;
import java.util.regex.Matcher;
import java.util.regex.Pattern;

/**
 * A second reading of ../shared/DOC.md, free in its means (the library, exceptions, copies at
 * every turn) and written apart from the class: RandomRunsTest holds the two beside one another.
 */
final class Oracle {
    static final class Fault extends RuntimeException {
        final int kind;
        final int place;

        Fault(int kind, int place) {
            this.kind = kind;
            this.place = place;
        }
    }

    record Step(int at, int take, int think) { }

    record Told(String name, boolean stream, int weight, int from, List<Step> steps) { }

    /** A disk as its text tells it. */
    static final class Text {
        static final Set<String> OWN = Set.of("disk", "seek", "rate", "budget", "to", "idle", "slice",
                "near", "raise", "for", "rest", "weight", "from", "does", "stream", "at", "on", "take",
                "think", "process");
        /** No byte is so great. */
        static final char END = 999;
        final String s;
        int i = 0;
        int statements = 0;
        int sectors, seek, rate;
        int least = 8, most = 64, idle = 4, slice = 40, near = 16, raise = 1, raiseFor = 0, rest = 999;
        final List<Told> processes = new ArrayList<>();
        final List<String> settings = new ArrayList<>();

        Text(String s) {
            this.s = s;
            word("disk");
            sectors = number(64, 9999);
            word("seek");
            seek = number(1, 500);
            word("rate");
            rate = number(1, 64);
            sign(';');
            statements = 1;
            while (peek() != END) {
                statement();
                sign(';');
                statements++;
            }
        }

        char peek() {
            while (i < s.length() && (s.charAt(i) == ' ' || s.charAt(i) == '\n')) i++;
            return i < s.length() ? s.charAt(i) : END;
        }

        String run(String kind) {
            peek();
            Matcher m = Pattern.compile(kind).matcher(s);
            m.region(i, s.length());
            return m.lookingAt() ? m.group() : "";
        }

        boolean touches(String kind) {
            return i > 0 && s.substring(i - 1, i).matches(kind);
        }

        String wordAhead() {
            String w = run("[a-z]+");
            return touches("[0-9]") ? "" : w;
        }

        void word(String w) {
            if (!wordAhead().equals(w)) throw new Fault(1, i);
            i += w.length();
        }

        int number(int low, int high) {
            String n = run("[0-9]+");
            if (n.isEmpty() || touches("[a-z]")) throw new Fault(1, i);
            if (n.length() > 4) throw new Fault(1, i + 4);
            int v = Integer.parseInt(n);
            if (v < low || v > high) throw new Fault(2, i);
            i += n.length();
            return v;
        }

        void sign(char c) {
            if (peek() != c) throw new Fault(1, i);
            i++;
        }

        void statement() {
            String w = wordAhead();
            if (List.of("budget", "idle", "slice", "near", "raise").contains(w)) {
                if (settings.contains(w)) throw new Fault(5, i);
                settings.add(w);
                i += w.length();
                switch (w) {
                    case "budget" -> {
                        least = number(1, 999);
                        word("to");
                        most = number(least, 999);
                    }
                    case "idle" -> idle = number(0, 20);
                    case "slice" -> slice = number(1, 200);
                    case "near" -> near = number(0, 999);
                    default -> {
                        raise = number(1, 20);
                        word("for");
                        raiseFor = number(0, 500);
                        word("rest");
                        rest = number(1, 999);
                    }
                }
            } else if (w.equals("process") || w.equals("stream")) {
                if (processes.size() == 6) throw new Fault(5, i);
                i += w.length();
                process(w.equals("stream"));
            } else {
                throw new Fault(1, i);
            }
        }

        void process(boolean stream) {
            String name = wordAhead();
            if (name.isEmpty() || OWN.contains(name)) throw new Fault(1, i);
            if (name.length() > 6) throw new Fault(1, i + 6);
            for (Told t : processes) if (t.name.equals(name)) throw new Fault(3, i);
            i += name.length();
            word("weight");
            int weight = number(1, 100);
            word("from");
            int from = number(0, 999);
            word("does");
            List<Step> steps = new ArrayList<>();
            steps.add(step(stream, 0));
            while (peek() == ',') {
                i++;
                steps.add(step(stream, steps.size()));
            }
            processes.add(new Told(name, stream, weight, from, steps));
        }

        Step step(boolean stream, int number) {
            String w = wordAhead();
            if (!w.equals("at") && !w.equals("on")) throw new Fault(1, i);
            if (number == 6) throw new Fault(5, i);
            if (w.equals("at") && stream) throw new Fault(6, i);
            i += 2;
            int at = w.equals("at") ? number(0, sectors - 1) : -1;
            word("take");
            int take = number(1, at < 0 ? 64 : Math.min(64, sectors - at));
            word("think");
            return new Step(at, take, number(0, 200));
        }
    }

    static final class P {
        int weight, thinks, place, step, out, sendsTo, misses, done, sectors, latencies, greatest;
        boolean on = true, waits;

        P copy() {
            P p = new P();
            p.weight = weight;
            p.thinks = thinks;
            p.place = place;
            p.step = step;
            p.out = out;
            p.sendsTo = sendsTo;
            p.misses = misses;
            p.done = done;
            p.sectors = sectors;
            p.latencies = latencies;
            p.greatest = greatest;
            p.on = on;
            p.waits = waits;
            return p;
        }
    }

    record R(int first, int many, int process, int asked, Step step) { }

    record K(int tick, int queue, int how, int served) { }

    record D(int tick, int process, int sectors, int latency) { }

    static final class Q {
        List<R> lies = new ArrayList<>();
        float start, finish, mean;
        int budget, end, latest, raised;
        Deque<Boolean> jumps = new ArrayDeque<>();

        Q copy() {
            Q q = new Q();
            q.lies = new ArrayList<>(lies);
            q.start = start;
            q.finish = finish;
            q.mean = mean;
            q.budget = budget;
            q.end = end;
            q.latest = latest;
            q.raised = raised;
            q.jumps = new ArrayDeque<>(jumps);
            return q;
        }

        int far() {
            int n = 0;
            for (boolean b : jumps) n += b ? 1 : 0;
            return n;
        }
    }

    /** The running disk. */
    static final class World {
        Text t;
        List<P> ps = new ArrayList<>();
        List<Q> qs = new ArrayList<>();
        int head, tick, active = -1, began, served, until, top, idle, slice, left;
        float now, rate;
        R busy;
        List<K> kept = new ArrayList<>();
        List<D> done = new ArrayList<>();

        World(Text t) {
            this.t = t;
            if (t == null) return;
            for (int i = 0; i < t.processes.size(); i++) {
                P p = new P();
                p.weight = t.processes.get(i).weight;
                p.thinks = t.processes.get(i).from;
                p.sendsTo = i;
                ps.add(p);
                Q q = new Q();
                q.budget = (t.least + t.most) / 2;
                qs.add(q);
            }
            rate = t.rate;
            top = t.most;
            idle = t.idle;
            slice = t.slice;
        }

        World copy() {
            World w = new World(null);
            w.t = t;
            for (P p : ps) w.ps.add(p.copy());
            for (Q q : qs) w.qs.add(q.copy());
            w.head = head;
            w.tick = tick;
            w.active = active;
            w.began = began;
            w.served = served;
            w.until = until;
            w.top = top;
            w.idle = idle;
            w.slice = slice;
            w.left = left;
            w.now = now;
            w.rate = rate;
            w.busy = busy;
            w.kept = new ArrayList<>(kept);
            w.done = new ArrayList<>(done);
            return w;
        }

        boolean stream(int i) {
            return t.processes.get(i).stream;
        }

        int weight(int q) {
            return ps.get(q).weight * (tick < qs.get(q).raised ? t.raise : 1);
        }

        boolean backlogged(int q) {
            return q != active && !qs.get(q).lies.isEmpty();
        }

        boolean seeky(int q) {
            return qs.get(q).far() >= 5;
        }

        World ahead(int n) {
            World w = copy();
            w.kept.clear();
            w.done.clear();
            for (int i = 0; i < n; i++) w.oneTick();
            return w;
        }

        void oneTick() {
            if (busy != null && --left == 0) finished();
            for (int i = 0; i < ps.size(); i++) {
                P p = ps.get(i);
                if (!p.on || p.waits) continue;
                if (p.thinks > 0) {
                    p.thinks--;
                    continue;
                }
                if (stream(i) && p.out >= 4) continue;
                List<Step> steps = t.processes.get(i).steps;
                Step s = steps.get(p.step);
                p.step = (p.step + 1) % steps.size();
                int first = s.at >= 0 ? s.at : p.place + s.take > t.sectors ? 0 : p.place;
                asks(i, first, s.take, s);
                if (stream(i)) p.thinks = s.think;
                else p.waits = true;
            }
            if (busy == null) chooses();
            tick++;
        }

        int asks(int i, int first, int many, Step step) {
            P p = ps.get(i);
            p.place = first + many;
            boolean wasMerged = p.sendsTo != i;
            if (wasMerged) {
                if (Math.abs(first - qs.get(p.sendsTo).end) > t.near) {
                    if (++p.misses == 3) {
                        p.sendsTo = i;
                        p.misses = 0;
                    }
                } else {
                    p.misses = 0;
                }
            }
            if (!wasMerged && active != -1 && active != i && !stream(i) && !stream(active)
                    && Math.abs(first - qs.get(active).end) <= t.near) {
                p.sendsTo = active;
                p.misses = 0;
            }
            int n = p.sendsTo;
            Q q = qs.get(n);
            q.jumps.addLast(Math.abs(first - q.end) > t.near);
            if (q.jumps.size() > 8) q.jumps.removeFirst();
            q.end = first + many;
            boolean busyWithIt = busy != null && active == n;
            if (q.lies.isEmpty() && !busyWithIt && !stream(n) && q.latest != 0) {
                float old = q.mean * 0.875f;
                float fresh = (float) (tick - q.latest) * 0.125f;
                q.mean = old + fresh;
            }
            if (active != n && !backlogged(n)) {
                if (tick - q.latest >= t.rest) q.raised = tick + t.raiseFor;
                q.start = Math.max(now, q.finish);
                float way = (float) q.budget / (float) weight(n);
                q.finish = q.start + way;
            }
            q.lies.add(new R(first, many, i, tick, step));
            p.out++;
            return n;
        }

        int nextOf(int q) {
            List<R> l = qs.get(q).lies;
            int best = -1;
            for (int k = 0; k < l.size(); k++)
                if (l.get(k).first >= head && (best < 0 || l.get(k).first < l.get(best).first)) best = k;
            if (best >= 0) return best;
            for (int k = 0; k < l.size(); k++)
                if (best < 0 || l.get(k).first < l.get(best).first) best = k;
            return best;
        }

        void goes(int q) {
            busy = qs.get(q).lies.remove(nextOf(q));
            left = (int) Math.ceil(Math.abs(busy.first - head) / (double) t.seek)
                    + (int) Math.ceil(busy.many / (double) t.rate);
        }

        void finished() {
            R r = busy;
            busy = null;
            head = r.first + r.many;
            served += r.many;
            int weights = 0;
            for (int q = 0; q < qs.size(); q++) if (q == active || backlogged(q)) weights += weight(q);
            float bit = (float) r.many / (float) weights;
            now = now + bit;
            Q q = qs.get(active);
            q.latest = tick;
            P p = ps.get(r.process);
            p.out--;
            p.done++;
            p.sectors += r.many;
            int latency = tick - r.asked;
            p.latencies += latency;
            p.greatest = Math.max(p.greatest, latency);
            done.add(new D(tick, r.process, r.many, latency));
            if (r.step != null && !stream(r.process)) {
                p.waits = false;
                p.thinks = r.step.think;
            }
            if (q.lies.isEmpty()) {
                until = tick;
                if (!stream(active) && !seeky(active) && q.mean <= idle) until += idle;
            }
        }

        void chooses() {
            if (active != -1) {
                Q q = qs.get(active);
                if (!q.lies.isEmpty()) {
                    int many = q.lies.get(nextOf(active)).many;
                    if (served != 0 && served + many > q.budget) expires(0);
                    else if (tick - began >= slice) expires(1);
                    else goes(active);
                } else if (tick >= until) {
                    expires(2);
                }
            }
            if (active != -1) return;
            List<Integer> back = new ArrayList<>();
            for (int q = 0; q < qs.size(); q++) if (backlogged(q)) back.add(q);
            if (back.isEmpty()) return;
            float least = Float.MAX_VALUE;
            for (int q : back) least = Math.min(least, qs.get(q).start);
            if (least > now) now = least;
            int best = -1;
            for (int q : back)
                if (qs.get(q).start <= now && (best < 0 || qs.get(q).finish < qs.get(best).finish)) best = q;
            active = best;
            began = tick;
            served = 0;
            goes(best);
        }

        void expires(int how) {
            Q q = qs.get(active);
            float quotient = (float) served / (float) (tick - began);
            rate = rate * 0.875f + quotient * 0.125f;
            top = Math.min(t.most, Math.max(t.least, (int) (rate * (float) slice)));
            int b = how == 0 ? 2 * q.budget : how == 1 ? served : q.budget / 2 > served ? q.budget / 2 : served;
            q.budget = Math.min(top, Math.max(t.least, b));
            q.start = q.start + (float) served / (float) weight(active);
            q.finish = q.lies.isEmpty() ? q.start : q.start + (float) q.budget / (float) weight(active);
            kept.add(new K(tick, active, how, served));
            active = -1;
        }
    }

    final List<Integer> tape = new ArrayList<>();
    World w = new World(null);
    final Deque<World> undo = new ArrayDeque<>();
    final List<int[]> seen = new ArrayList<>();
    int[] image = new int[0];
    final int[] refused = new int[6];
    int faultKind = 0, faultPlace = -1;
    long x = 1;

    boolean has() {
        return w.t != null;
    }

    int count() {
        return w.ps.size();
    }

    boolean is(int p) {
        return p >= 0 && p < count();
    }

    int refuse(int k) {
        refused[k]++;
        return -1;
    }

    void act() {
        undo.addLast(w.copy());
        if (undo.size() > 20) undo.removeFirst();
    }

    String tapeText() {
        StringBuilder b = new StringBuilder();
        for (int c : tape) b.append((char) c);
        return b.toString();
    }

    int feed(int... five) {
        if (tape.size() + 20 > 1600) return refuse(0);
        for (int a : five) for (int s = 24; s >= 0; s -= 8) tape.add(a >>> s & 255);
        return tape.size();
    }

    boolean end(int n) {
        if (n < 0 || n > tape.size()) {
            refuse(0);
            return false;
        }
        tape.subList(n, tape.size()).clear();
        return true;
    }

    int disk() {
        String s = tapeText();
        tape.clear();
        try {
            Text t = new Text(s);
            w = new World(t);
            undo.clear();
            seen.clear();
            faultKind = 0;
            faultPlace = -1;
            return t.statements;
        } catch (Fault f) {
            faultKind = f.kind;
            faultPlace = f.place;
            return refuse(1);
        }
    }

    int fault(int what) {
        return what == 0 ? faultKind : what == 1 ? faultPlace : -1;
    }

    static int pick(int what, int... of) {
        return what >= 0 && what < of.length ? of[what] : -1;
    }

    int told() {
        return Math.min(40, w.kept.size());
    }

    int has(int what) {
        boolean a = w.active >= 0;
        boolean waits = a && w.busy == null && w.qs.get(w.active).lies.isEmpty();
        return pick(what, has() ? w.t.sectors : 0, count(), w.tick, w.head, w.active,
                w.busy == null ? 0 : w.left, a ? w.began : -1, waits ? w.until : -1, w.idle, w.slice, w.top,
                told(), seen.size(), undo.size(), (int) x);
    }

    int letter(int p, int k) {
        if (!is(p) || k < 0 || k > 5) return -1;
        String n = w.t.processes.get(p).name;
        return k < n.length() ? n.charAt(k) - 96 : 0;
    }

    int process(int i, int what) {
        if (!is(i)) return -1;
        P p = w.ps.get(i);
        return pick(what, p.weight, p.waits ? 0 : p.thinks, p.waits ? 1 : 0, p.place, p.step, p.out, p.sendsTo,
                p.misses, p.on ? 1 : 0, p.done, p.sectors, p.latencies, p.greatest);
    }

    long mean(int i) {
        if (!is(i) || w.ps.get(i).done == 0) return -1;
        return Double.doubleToLongBits((double) w.ps.get(i).latencies / w.ps.get(i).done);
    }

    int queue(int i, int what) {
        if (!is(i)) return -1;
        Q q = w.qs.get(i);
        return pick(what, q.lies.size(), q.budget, w.active == i ? w.served : 0, q.end, q.far(),
                w.seeky(i) ? 1 : 0, q.latest, q.raised, w.weight(i), w.backlogged(i) ? 1 : 0,
                Float.floatToIntBits(q.start), Float.floatToIntBits(q.finish), Float.floatToIntBits(q.mean));
    }

    int bits(int what) {
        return has() ? pick(what, Float.floatToIntBits(w.now), Float.floatToIntBits(w.rate)) : -1;
    }

    int request(int q, int k, int what) {
        R r;
        if (q == -1) {
            if (k != 0) return -1;
            r = w.busy;
        } else {
            if (!is(q) || k < 0 || k >= w.qs.get(q).lies.size()) return -1;
            r = w.qs.get(q).lies.get(k);
        }
        return r == null ? -1 : pick(what, r.first, r.many, r.process, r.asked, r.step == null ? 1 : 0);
    }

    int next(int q) {
        return is(q) ? w.nextOf(q) : -1;
    }

    int kept(int k, int what) {
        if (k < 0 || k >= told()) return -1;
        K e = w.kept.get(w.kept.size() - told() + k);
        return pick(what, e.tick, e.queue, e.how, e.served);
    }

    int later(int n, int p, int what) {
        if (n < 0 || n > 400 || !is(p)) return -1;
        int c = 0, s = 0, l = 0, g = 0;
        for (D d : w.ahead(n).done) {
            if (d.process != p) continue;
            c++;
            s += d.sectors;
            l += d.latency;
            g = Math.max(g, d.latency);
        }
        return pick(what, c, s, l, g);
    }

    static int sum(World a) {
        int s = 0;
        for (D d : a.done) s += d.sectors;
        return s;
    }

    static int sum(World a, int p) {
        int s = 0;
        for (D d : a.done) s += d.process == p ? d.sectors : 0;
        return s;
    }

    int share(int n, int p) {
        if (n < 1 || n > 400 || !is(p)) return -1;
        World a = w.ahead(n);
        return sum(a) == 0 ? -1 : sum(a, p) * 100 / sum(a);
    }

    int when(int p, int k) {
        if (!is(p) || k < 1 || k > 40) return -1;
        for (D d : w.ahead(400).done) if (d.process == p && --k == 0) return d.tick - w.tick + 1;
        return -1;
    }

    int late(int n, int p, int above) {
        if (n < 0 || n > 400 || !is(p) || above < 0) return -1;
        int c = 0;
        for (D d : w.ahead(n).done) c += d.process == p && d.latency > above ? 1 : 0;
        return c;
    }

    int alone(int n, int p) {
        if (n < 0 || n > 400 || !is(p)) return -1;
        World a = w.copy();
        for (P each : a.ps) each.on = false;
        a.ps.get(p).on = true;
        return sum(a.ahead(n), p);
    }

    World idled(int i) {
        World a = w.copy();
        a.idle = i;
        return a;
    }

    int idling(int n, int what) {
        if (n < 1 || n > 200 || count() == 0) return -1;
        int best = 0, most = -1;
        for (int i = 20; i >= 0; i--) {
            int s = sum(idled(i).ahead(n));
            if (s >= most) {
                most = s;
                best = i;
            }
        }
        return pick(what, best, most);
    }

    int gain(int n, int what) {
        if (n < 1 || n > 200 || !has()) return -1;
        return pick(what, sum(w.ahead(n)), sum(idled(0).ahead(n)));
    }

    int apart(int n) {
        if (n < 1 || n > 400 || count() == 0) return -1;
        World a = w.ahead(n);
        float[] each = new float[count()];
        for (int i = 0; i < each.length; i++) each[i] = (float) sum(a, i) / (float) w.ps.get(i).weight;
        Arrays.sort(each);
        return Float.floatToIntBits(each[each.length - 1] - each[0]);
    }

    int latest(int n, int above, int what) {
        if (n < 1 || n > 400 || above < 0) return -1;
        int best = -1, most = 0;
        for (int i = 0; i < count(); i++) {
            int c = late(n, i, above);
            if (c > most) {
                most = c;
                best = i;
            }
        }
        return best < 0 ? -1 : pick(what, best, most);
    }

    int least(int n, int p, int sectors) {
        if (n < 1 || n > 100 || !is(p) || sectors < 1) return -1;
        for (int weight = 1; weight <= 100; weight++) {
            World a = w.copy();
            a.ps.get(p).weight = weight;
            if (sum(a.ahead(n), p) >= sectors) return weight;
        }
        return -1;
    }

    int expiry(int k, int what) {
        if (!has() || k < 0) return -1;
        List<K> l = w.ahead(400).kept;
        if (k >= l.size()) return -1;
        K e = l.get(k);
        return pick(what, e.tick - w.tick + 1, e.queue, e.how, e.served);
    }

    int worst(int n, int what) {
        if (n < 1 || n > 400 || !has()) return -1;
        int p = -1, g = -1;
        for (D d : w.ahead(n).done) {
            if (d.latency > g || d.latency == g && d.process < p) {
                g = d.latency;
                p = d.process;
            }
        }
        return p < 0 ? -1 : pick(what, p, g);
    }

    int slicing(int n, int what) {
        if (n < 1 || n > 100 || count() == 0) return -1;
        int best = 0, least = Integer.MAX_VALUE;
        for (int s = 1; s <= 200; s++) {
            World a = w.copy();
            a.slice = s;
            int g = 0;
            for (D d : a.ahead(n).done) g = Math.max(g, d.latency);
            if (g <= least) {
                least = g;
                best = s;
            }
        }
        return pick(what, best, least);
    }

    int lag(int q) {
        return is(q) ? Float.floatToIntBits(w.qs.get(q).start - w.now) : -1;
    }

    int see() {
        List<Integer> l = new ArrayList<>(tape);
        tape.clear();
        if (!has() || l.isEmpty() || l.size() > 32 || l.size() % 2 == 1) return refuse(5);
        for (int i = 0; i < l.size(); i += 2) {
            if (l.get(i) < 1 || l.get(i) > 60 || !is(l.get(i + 1)) && l.get(i + 1) != 6) return refuse(5);
        }
        seen.clear();
        for (int i = 0; i < l.size(); i += 2) seen.add(new int[] {l.get(i), l.get(i + 1)});
        return seen.size();
    }

    /** The queue that is active behind 0 .. 60 ticks ahead, by a number idle. */
    int[] course(int idle) {
        World a = idled(idle);
        int[] c = new int[61];
        for (int t = 0; t <= 60; t++) {
            c[t] = a.active < 0 ? 6 : a.active;
            a.oneTick();
        }
        return c;
    }

    int fits() {
        if (!has()) return -1;
        int m = 0;
        for (int i = 0; i <= 20; i++) {
            int[] c = course(i);
            boolean all = true;
            for (int[] row : seen) all &= c[row[0]] == row[1];
            if (all) m |= 1 << i;
        }
        return m;
    }

    int tells(int what) {
        if (!has()) return -1;
        int m = fits();
        if (m == 0) return -1;
        int best = 0, fewest = 99;
        for (int t = 1; t <= 60; t++) {
            Map<Integer, Integer> groups = new HashMap<>();
            int most = 0;
            for (int i = 0; i <= 20; i++) {
                if ((m >> i & 1) == 1) most = Math.max(most, groups.merge(course(i)[t], 1, Integer::sum));
            }
            if (most < fewest) {
                fewest = most;
                best = t;
            }
        }
        return pick(what, best, fewest);
    }

    int ticks(int n) {
        if (!has() || n < 1 || n > 200 || w.tick + n > 9999) return refuse(2);
        act();
        for (int i = 0; i < n; i++) w.oneTick();
        return w.tick;
    }

    boolean canAsk(int p, int sector, int many) {
        return w.ps.get(p).out < 8 && many >= 1 && many <= 64 && sector >= 0
                && (long) sector + many <= w.t.sectors;
    }

    int ask(int p, int sector, int many) {
        if (!is(p) || !canAsk(p, sector, many)) return refuse(3);
        act();
        return w.asks(p, sector, many, null);
    }

    boolean weight(int p, int weight) {
        if (!is(p) || weight < 1 || weight > 100 || w.ps.get(p).weight == weight) return refuse(3) > 0;
        act();
        w.ps.get(p).weight = weight;
        return true;
    }

    boolean idle(int n) {
        if (!has() || n < 0 || n > 20 || n == w.idle) return refuse(3) > 0;
        act();
        w.idle = n;
        return true;
    }

    boolean slice(int n) {
        if (!has() || n < 1 || n > 200 || n == w.slice) return refuse(3) > 0;
        act();
        w.slice = n;
        return true;
    }

    boolean on(int p, boolean on) {
        if (!is(p) || w.ps.get(p).on == on) return refuse(3) > 0;
        act();
        w.ps.get(p).on = on;
        return true;
    }

    int draw(int m) {
        x = (1103515245L * x + 12345L) & 0x7fffffffL;
        return (int) ((x >> 6) % m);
    }

    int chance(int n) {
        if (count() == 0 || n < 1 || n > 40 || w.tick + 7 * n > 9999) return refuse(2);
        act();
        for (int i = 0; i < n; i++) {
            int p = draw(count());
            int s = draw(w.t.sectors);
            int many = draw(16) + 1;
            if (canAsk(p, s, many)) w.asks(p, s, many, null);
            int t = draw(8);
            for (int k = 0; k < t; k++) w.oneTick();
        }
        return w.tick;
    }

    boolean undo() {
        if (undo.isEmpty()) return refuse(4) > 0;
        w = undo.removeLast();
        return true;
    }

    boolean seed(int seed) {
        if (seed < 0) return refuse(5) > 0;
        x = seed;
        return true;
    }

    static int check(List<Integer> l) {
        int c = 163;
        for (int b : l) c = (3 * c + b) % 251;
        return c;
    }

    int image() {
        List<Integer> l = new ArrayList<>(List.of(w.idle, w.slice));
        for (P p : w.ps) {
            l.add(p.weight);
            l.add(p.on ? 1 : 0);
        }
        l.add(check(l));
        image = l.stream().mapToInt(Integer::intValue).toArray();
        return image.length;
    }

    int octet(int k) {
        return pick(k, image);
    }

    boolean take() {
        List<Integer> l = new ArrayList<>(tape);
        tape.clear();
        if (!has() || l.size() != 3 + 2 * count() || check(l.subList(0, l.size() - 1)) != l.get(l.size() - 1)
                || l.get(0) > 20 || l.get(1) < 1 || l.get(1) > 200) {
            return refuse(5) > 0;
        }
        for (int i = 0; i < count(); i++) {
            if (l.get(2 + 2 * i) < 1 || l.get(2 + 2 * i) > 100 || l.get(3 + 2 * i) > 1) return refuse(5) > 0;
        }
        w = new World(w.t);
        w.idle = l.get(0);
        w.slice = l.get(1);
        for (int i = 0; i < count(); i++) {
            w.ps.get(i).weight = l.get(2 + 2 * i);
            w.ps.get(i).on = l.get(3 + 2 * i) == 1;
        }
        undo.clear();
        return true;
    }

    int status(int what) {
        return pick(what, refused);
    }
}
