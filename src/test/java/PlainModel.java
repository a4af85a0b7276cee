import java.util.ArrayList;
import java.util.Arrays;
import java.util.List;
import java.util.TreeMap;

/**
 * The document once more, frame by frame and without any care for speed: the class is compared with it call by
 * call. It shares no code and no form with the class, so that a slip in one of them shows.
 */
final class PlainModel {
    static final int NONE = -1;

    static final class Block {
        int number, owner, kind, order, first, target = NONE, copied, used;
        final List<Integer> pins = new ArrayList<>();
        final List<int[]> line = new ArrayList<>(); // task, wish, i, value

        int size() {
            int size = 1;
            for (int k = 0; k < order; k++) size *= 2;
            return size;
        }

        Block copy() {
            Block b = new Block();
            b.number = number; b.owner = owner; b.kind = kind; b.order = order; b.first = first;
            b.target = target; b.copied = copied; b.used = used;
            b.pins.addAll(pins);
            for (int[] w : line) b.line.add(w.clone());
            return b;
        }
    }

    static final class Span {
        int state, zone = NONE, pass, pause, at, leaving = NONE, why = NONE;
        boolean[] shut = new boolean[4];

        Span copy() {
            Span s = new Span();
            s.state = state; s.zone = zone; s.pass = pass; s.pause = pause; s.at = at; s.leaving = leaving; s.why = why;
            s.shut = shut.clone();
            return s;
        }
    }

    TreeMap<Integer, Block> blocks = new TreeMap<>();
    Span[] spans = new Span[8];
    int[] frameState = new int[256], frameBlock = new int[256], frameValue = new int[256];
    int[] home = new int[6], lastRead = new int[6];
    int rate = 4, tries = 3, ratio = 150, pause = 2, tick = 0, used = 0;
    int[] counts = new int[11];
    List<int[]> log = new ArrayList<>();
    PlainModel image;

    PlainModel() {
        Arrays.fill(frameBlock, NONE);
        for (int s = 0; s < 8; s++) spans[s] = new Span();
        for (int s = 0; s < 2; s++) {
            spans[s].state = 1;
            spans[s].zone = 0;
            for (int f = 0; f < 32; f++) frameState[s * 32 + f] = 1;
        }
    }

    PlainModel copy() {
        PlainModel m = new PlainModel();
        m.assign(this);
        return m;
    }

    void assign(PlainModel o) {
        blocks = new TreeMap<>();
        for (Block b : o.blocks.values()) blocks.put(b.number, b.copy());
        for (int s = 0; s < 8; s++) spans[s] = o.spans[s].copy();
        frameState = o.frameState.clone(); frameBlock = o.frameBlock.clone(); frameValue = o.frameValue.clone();
        home = o.home.clone(); lastRead = o.lastRead.clone();
        rate = o.rate; tries = o.tries; ratio = o.ratio; pause = o.pause; tick = o.tick; used = o.used;
        counts = o.counts.clone();
        log = new ArrayList<>(o.log);
    }

    // ---- terms

    boolean allFree(int first, int order) {
        int size = (int) Math.pow(2, order);
        for (int f = first; f < first + size; f++) if (frameState[f] != 1) return false;
        return true;
    }

    List<Integer> places(int span, int order) {
        List<Integer> found = new ArrayList<>();
        int size = (int) Math.pow(2, order);
        for (int f = span * 32; f + size <= span * 32 + 32; f += size) if (allFree(f, order)) found.add(f);
        return found;
    }

    int holeOf(int frame) {
        int hole = NONE;
        for (int order = 0; order <= 5; order++) {
            int size = (int) Math.pow(2, order);
            if (allFree(frame - frame % size, order)) hole = order;
        }
        return hole;
    }

    int rankOf(int span, int kind, int task) {
        boolean near = span % 2 == home[task];
        int zone = spans[span].zone;
        if (zone == NONE) return NONE;
        if (kind == 0 && zone == 1) return near ? 0 : 1;
        if (kind == 0) return near ? 2 : 3;
        if (zone == 1) return NONE;
        return near ? 0 : 1;
    }

    int best(int task, int kind, int order, boolean onlyOn) {
        int[] best = null;
        for (int s = 0; s < 8; s++) {
            if (onlyOn && spans[s].state != 1) continue;
            int rank = rankOf(s, kind, task);
            if (rank == NONE) continue;
            for (int f : places(s, order)) {
                int[] me = {rank, holeOf(f), f};
                if (best == null || Arrays.compare(me, best) < 0) best = me;
            }
        }
        return best == null ? NONE : best[2];
    }

    int leastNumber() {
        for (int n = 0; n < 96; n++) if (!blocks.containsKey(n)) return n;
        return NONE;
    }

    void line(int what, int a, int b) {
        log.add(new int[] {tick, what, a, b});
    }

    void empty(int f) {
        frameState[f] = spans[f / 32].shut[f % 32 / 8] ? 2 : 1;
        frameBlock[f] = NONE;
        frameValue[f] = 0;
    }

    void vanish(Block b) {
        for (int f = b.first; f < b.first + b.size(); f++) empty(f);
        blocks.remove(b.number);
    }

    void drop(Block b) {
        counts[5]++;
        line(6, b.number, b.first);
        vanish(b);
    }

    Block waitsFor(int task) {
        for (Block b : blocks.values()) for (int[] w : b.line) if (w[0] == task) return b;
        return null;
    }

    boolean isTask(int t) { return t >= 0 && t <= 5; }
    boolean isSpan(int s) { return s >= 0 && s <= 7; }

    // ---- calls

    int set(int what, int v) {
        if (what == 0 && v >= 1 && v <= 16) { rate = v; return 1; }
        if (what == 1 && v >= 1 && v <= 9) { tries = v; return 1; }
        if (what == 2 && v >= 0 && v <= 400) { ratio = v; return 1; }
        if (what == 3 && v >= 1 && v <= 20) { pause = v; return 1; }
        return 0;
    }

    int home(int task, int node) {
        if (!isTask(task) || node < 0 || node > 1) return 0;
        home[task] = node;
        return 1;
    }

    int take(int task, int kind, int order, int value) {
        if (!isTask(task) || kind < 0 || kind > 2 || order < 0 || order > 4) return NONE - 1;
        while (best(task, kind, order, false) == NONE) {
            Block least = null;
            for (Block b : blocks.values()) {
                if (b.kind == 2 && b.pins.isEmpty() && b.target == NONE && (least == null || b.used < least.used)) least = b;
            }
            if (least == null) break;
            drop(least);
        }
        int at = best(task, kind, order, false);
        int number = leastNumber();
        if (at == NONE || number == NONE) { counts[1]++; return NONE; }
        Block b = new Block();
        b.number = number; b.owner = task; b.kind = kind; b.order = order; b.first = at; b.used = ++used;
        blocks.put(number, b);
        for (int i = 0; i < b.size(); i++) {
            frameState[at + i] = 3; frameBlock[at + i] = number; frameValue[at + i] = value + i;
        }
        counts[0]++;
        return number;
    }

    int free(int block) {
        Block b = blocks.get(block);
        if (b == null || !b.pins.isEmpty() || b.target != NONE) return 0;
        vanish(b);
        return 1;
    }

    void act(Block b, int[] wish) {
        if (wish[1] == 2) {
            if (!b.pins.contains(wish[0])) b.pins.add(wish[0]);
            return;
        }
        b.used = ++used;
        if (wish[1] == 0) lastRead[wish[0]] = frameValue[b.first + wish[2]];
        else frameValue[b.first + wish[2]] = wish[3];
    }

    int touch(int task, int block, int wish, int i, int value) {
        Block b = blocks.get(block);
        if (!isTask(task) || b == null || waitsFor(task) != null || i < 0 || i >= b.size()) return NONE;
        if (wish == 2 && b.pins.contains(task)) return NONE;
        int[] w = {task, wish, i, value};
        if (b.target == NONE) { act(b, w); return 0; }
        b.line.add(w);
        counts[8]++;
        line(7, task, block);
        return 1;
    }

    void serve(Block b) {
        for (int[] w : b.line) {
            act(b, w);
            line(8, w[0], b.number);
        }
        b.line.clear();
    }

    int unpin(int task, int block) {
        Block b = blocks.get(block);
        return b != null && b.pins.remove((Integer) task) ? 1 : 0;
    }

    int framesOfZone(int zone) {
        int n = 0;
        for (Span s : spans) if (s.zone == zone) n += 32;
        return n;
    }

    int comeNow(int span, int how) {
        int zone = how;
        if (how == 2) zone = 100 * (framesOfZone(1) + 32) <= ratio * framesOfZone(0) ? 1 : 0;
        spans[span].state = 1;
        spans[span].zone = zone;
        for (int f = span * 32; f < span * 32 + 32; f++) frameState[f] = 1;
        line(3, span, zone);
        return zone;
    }

    int come(int span, int how) {
        if (!isSpan(span) || how < 0 || how > 2 || spans[span].state != 0) return NONE;
        return comeNow(span, how);
    }

    int byTurns(int n) {
        if (n < 1 || n > 8) return NONE;
        int came = 0;
        while (came < n) {
            int[] not = new int[2];
            int[] least = {NONE, NONE};
            for (int s = 7; s >= 0; s--) {
                if (spans[s].state == 0) least[s % 2] = s; else not[s % 2]++;
            }
            int node;
            if (least[0] == NONE && least[1] == NONE) break;
            else if (least[0] == NONE) node = 1;
            else if (least[1] == NONE) node = 0;
            else node = not[1] < not[0] ? 1 : 0;
            comeNow(least[node], 2);
            came++;
        }
        return came;
    }

    void atOnce(Block b, int to) {
        int old = b.first;
        for (int i = 0; i < b.size(); i++) {
            frameState[to + i] = 3; frameBlock[to + i] = b.number; frameValue[to + i] = frameValue[old + i];
            frameState[old + i] = 1; frameBlock[old + i] = NONE; frameValue[old + i] = 0;
        }
        b.first = to;
        counts[10]++;
    }

    List<Block> inSpan(int span) {
        List<Block> in = new ArrayList<>();
        for (int f = span * 32; f < span * 32 + 32; f++) {
            if (frameState[f] == 3) {
                Block b = blocks.get(frameBlock[f]);
                if (!in.contains(b)) in.add(b);
            }
        }
        return in;
    }

    int press(int span) {
        if (!isSpan(span) || spans[span].state != 1) return NONE;
        List<Block> in = inSpan(span);
        int went = 0;
        for (int k = in.size() - 1; k >= 0; k--) {
            Block b = in.get(k);
            if (b.kind != 0 || !b.pins.isEmpty() || b.target != NONE) continue;
            List<Integer> places = places(span, b.order);
            if (!places.isEmpty() && places.get(0) < b.first) { atOnce(b, places.get(0)); went++; }
        }
        return went;
    }

    int gather(int task) {
        if (!isTask(task)) return NONE;
        int went = 0;
        for (Block b : blocks.values()) {
            if (b.owner != task || b.kind != 0 || !b.pins.isEmpty() || b.target != NONE) continue;
            if (spans[b.first / 32].state != 1) continue;
            int to = best(task, 0, b.order, true);
            if (to != NONE && rankOf(to / 32, 0, task) < rankOf(b.first / 32, 0, task)) { atOnce(b, to); went++; }
        }
        return went;
    }

    int go(int span) {
        if (!isSpan(span) || spans[span].state != 1) return 0;
        boolean other = false;
        for (int s = 0; s < 8; s++) if (s != span && spans[s].state == 1 && spans[s].zone == 0) other = true;
        if (!other) return 0;
        spans[span].state = 2;
        line(0, span, span % 2);
        return 1;
    }

    int giveUp(int span) {
        if (!isSpan(span) || spans[span].state < 2) return 0;
        fail(span, 3);
        return 1;
    }

    void fail(int s, int why) {
        Span span = spans[s];
        if (span.leaving != NONE) {
            Block b = blocks.get(span.leaving);
            for (int i = 0; i < b.size(); i++) empty(b.target + i);
            b.target = NONE;
            b.copied = 0;
            span.leaving = NONE;
            serve(b);
        }
        for (int f = s * 32; f < s * 32 + 32; f++) if (frameState[f] == 2) frameState[f] = 1;
        int last = span.zone;
        spans[s] = new Span();
        spans[s].zone = last;
        spans[s].state = 1;
        spans[s].why = why;
        counts[7]++;
        line(2, s, why);
    }

    int tick(int n) {
        if (n < 1 || n > 60 || tick + n > 9999) return NONE;
        for (int k = 0; k < n; k++) oneTick();
        return tick;
    }

    void oneTick() {
        tick++;
        for (int s = 0; s < 8; s++) {
            if (spans[s].state == 2) shutting(s);
            else if (spans[s].state == 3) moving(s);
        }
    }

    void shutting(int s) {
        Span span = spans[s];
        int part = 0;
        while (span.shut[part]) part++;
        for (int f = s * 32 + part * 8; f < s * 32 + part * 8 + 8; f++) {
            if (frameState[f] == 3 && blocks.get(frameBlock[f]).kind == 1) { fail(s, 0); return; }
        }
        span.shut[part] = true;
        for (int f = s * 32 + part * 8; f < s * 32 + part * 8 + 8; f++) if (frameState[f] == 1) frameState[f] = 2;
        if (part == 3) { span.state = 3; span.pass = 1; span.at = s * 32; }
    }

    void moving(int s) {
        Span span = spans[s];
        if (span.pause > 0) { span.pause--; return; }
        int budget = rate;
        while (true) {
            if (span.leaving == NONE) {
                Block next = null;
                for (Block b : inSpan(s)) if (b.first >= span.at) { next = b; break; }
                if (next == null) { passOver(s); return; }
                if (next.kind == 1 || !next.pins.isEmpty()) { span.at = next.first + next.size(); continue; }
                if (next.kind == 2) { drop(next); continue; }
                int to = best(next.owner, next.kind, next.order, true);
                if (to != NONE) {
                    next.target = to;
                    for (int i = 0; i < next.size(); i++) { frameState[to + i] = 4; frameBlock[to + i] = next.number; }
                    span.leaving = next.number;
                    span.at = next.first + next.size();
                } else if (next.order > 0 && leastNumber() != NONE) {
                    Block half = new Block();
                    half.number = leastNumber(); half.owner = next.owner; half.kind = next.kind; half.used = next.used;
                    next.order--;
                    half.order = next.order;
                    half.first = next.first + next.size();
                    for (int i = 0; i < half.size(); i++) frameBlock[half.first + i] = half.number;
                    blocks.put(half.number, half);
                    counts[4]++;
                    line(5, next.number, half.number);
                } else {
                    span.at = next.first + next.size();
                }
                continue;
            }
            Block b = blocks.get(span.leaving);
            while (budget > 0 && b.copied < b.size()) {
                frameValue[b.target + b.copied] = frameValue[b.first + b.copied];
                b.copied++;
                budget--;
                counts[3]++;
            }
            if (b.copied < b.size()) return;
            for (int i = 0; i < b.size(); i++) {
                frameState[b.first + i] = 2; frameBlock[b.first + i] = NONE; frameValue[b.first + i] = 0;
                frameState[b.target + i] = 3;
            }
            b.first = b.target;
            b.target = NONE;
            b.copied = 0;
            span.leaving = NONE;
            counts[2]++;
            line(4, b.number, b.first);
            serve(b);
        }
    }

    void passOver(int s) {
        counts[9]++;
        boolean empty = true;
        for (int f = s * 32; f < s * 32 + 32; f++) if (frameState[f] == 3 || frameState[f] == 4) empty = false;
        if (empty) {
            counts[6]++;
            line(1, s, spans[s].pass);
            for (int f = s * 32; f < s * 32 + 32; f++) frameState[f] = 0;
            int why = spans[s].why;
            spans[s] = new Span();
            spans[s].why = why;
        } else if (spans[s].pass >= tries) {
            List<Block> in = inSpan(s);
            int why = 2;
            if (!in.isEmpty() && in.get(0).kind == 1) why = 0;
            else if (!in.isEmpty() && !in.get(0).pins.isEmpty()) why = 1;
            fail(s, why);
        } else {
            spans[s].pass++;
            spans[s].pause = pause;
            spans[s].at = s * 32;
        }
    }

    // ---- questions

    int frame(int f, int what) {
        if (f < 0 || f > 255) return NONE;
        return what == 0 ? frameState[f] : what == 1 ? frameBlock[f] : what == 2 ? frameValue[f] : NONE;
    }

    static int set(List<Integer> members) {
        int set = 0;
        for (int m : members) set |= 1 << m;
        return set;
    }

    int block(int block, int what) {
        Block b = blocks.get(block);
        if (b == null || what < 0 || what > 8) return NONE;
        return new int[] {b.first, b.order, b.kind, b.owner, set(b.pins), b.target, b.copied, b.used, b.line.size()}[what];
    }

    int framesIn(int span, int state) {
        int n = 0;
        for (int f = span * 32; f < span * 32 + 32; f++) if (frameState[f] == state) n++;
        return n;
    }

    int span(int s, int what) {
        if (!isSpan(s) || what < 0 || what > 10) return NONE;
        Span x = spans[s];
        int shut = 0;
        for (boolean part : x.shut) if (part) shut++;
        return new int[] {x.state, x.zone, framesIn(s, 1), framesIn(s, 2), framesIn(s, 3), framesIn(s, 4), shut,
            x.pass, x.pause, x.leaving, x.why}[what];
    }

    int task(int t, int what) {
        if (!isTask(t) || what < 0 || what > 5) return NONE;
        Block waits = waitsFor(t);
        int owns = 0, pins = 0;
        for (Block b : blocks.values()) {
            if (b.owner == t) owns++;
            if (b.pins.contains(t)) pins++;
        }
        return new int[] {home[t], waits == null ? 0 : 1, waits == null ? NONE : waits.number, lastRead[t], owns, pins}[what];
    }

    int zone(int z, int what) {
        if (z < 0 || z > 1 || what < 0 || what > 2) return NONE;
        int n = 0, free = 0, greatest = NONE;
        for (int s = 0; s < 8; s++) {
            if (spans[s].zone != z) continue;
            n++;
            free += framesIn(s, 1);
            greatest = Math.max(greatest, greatestOrder(s));
        }
        return new int[] {n, free, greatest}[what];
    }

    int greatestOrder(int s) {
        int greatest = NONE;
        for (int order = 0; order <= 5; order++) if (!places(s, order).isEmpty()) greatest = order;
        return greatest;
    }

    int loose(int z, int order) {
        if (z < 0 || z > 1 || order < 0 || order > 5) return NONE;
        int n = 0;
        for (int f = 0; f < 256; f++) {
            if (spans[f / 32].zone != z || frameState[f] != 1) continue;
            int size = (int) Math.pow(2, order);
            if (!places(f / 32, order).contains(f - f % size)) n++;
        }
        return n;
    }

    int place(int task, int kind, int order) {
        if (!isTask(task) || kind < 0 || kind > 2 || order < 0 || order > 4) return NONE;
        return best(task, kind, order, false);
    }

    int hole(int f) {
        return f < 0 || f > 255 ? NONE : holeOf(f);
    }

    List<int[]> keepersOf(int s) {
        List<int[]> keep = new ArrayList<>();
        for (Block b : inSpan(s)) {
            boolean elsewhere = false;
            for (int o = 0; o < 8; o++) {
                if (o == s || spans[o].state != 1 || rankOf(o, b.kind, b.owner) == NONE) continue;
                if (!places(o, b.order).isEmpty()) elsewhere = true;
            }
            int why = b.kind == 1 ? 0 : !b.pins.isEmpty() ? 1 : b.kind != 2 && !elsewhere ? 2 : NONE;
            if (why != NONE) keep.add(new int[] {b.number, why, b.owner, set(b.pins)});
        }
        return keep;
    }

    int keeps(int s, int i, int what) {
        if (!isSpan(s) || what < 0 || what > 3) return NONE;
        List<int[]> keep = keepersOf(s);
        if (i == NONE) return keep.size();
        return i < 0 || i >= keep.size() ? NONE : keep.get(i)[what];
    }

    int holders(int s) {
        if (!isSpan(s)) return NONE;
        int set = 0;
        for (int[] k : keepersOf(s)) {
            if (blocks.get(k[0]).kind == 1) set |= 1 << k[2];
            set |= k[3];
        }
        return set;
    }

    int pressed(int s) {
        PlainModel m = copy();
        return m.press(s) == NONE ? NONE : m.greatestOrder(s);
    }

    int at(int task, int node) {
        if (!isTask(task) || node < 0 || node > 1) return NONE;
        int n = 0;
        for (int f = 0; f < 256; f++) {
            if (frameState[f] == 3 && blocks.get(frameBlock[f]).owner == task && f / 32 % 2 == node) n++;
        }
        return n;
    }

    int movable() {
        PlainModel m = copy();
        int n = 0;
        for (int s = 0; s < 8; s++) {
            if (m.spans[s].state != 0) continue;
            if (m.comeNow(s, 2) != 1) break;
            n++;
        }
        return n;
    }

    /** off, ticks, copied, split, dropped; null if it can't begin. */
    int[] wouldOf(int s, PlainModel[] end) {
        PlainModel m = copy();
        if (m.go(s) == 0) return null;
        int ticks = 0;
        while (ticks < 500 && m.spans[s].state >= 2) { m.oneTick(); ticks++; }
        end[0] = m;
        return new int[] {m.spans[s].state == 0 ? 1 : 0, ticks, m.counts[3] - counts[3], m.counts[4] - counts[4],
            m.counts[5] - counts[5]};
    }

    int would(int s, int what) {
        if (what < 0 || what > 4) return NONE;
        int[] w = wouldOf(s, new PlainModel[1]);
        return w == null ? NONE : w[what];
    }

    int[] easiestOf(PlainModel[] end) {
        int[] best = null;
        for (int s = 0; s < 8; s++) {
            PlainModel[] mine = new PlainModel[1];
            int[] w = wouldOf(s, mine);
            if (w != null && w[0] == 1 && (best == null || w[1] < best[1])) { best = new int[] {s, w[1]}; end[0] = mine[0]; }
        }
        return best;
    }

    int easiest(int what) {
        int[] best = easiestOf(new PlainModel[1]);
        return best == null || what < 0 || what > 1 ? NONE : best[what];
    }

    int givenBack() {
        PlainModel m = this;
        int n = 0;
        while (true) {
            PlainModel[] end = new PlainModel[1];
            if (m.easiestOf(end) == null) return n;
            m = end[0];
            n++;
        }
    }

    int log(int i, int what) {
        if (i < 0 || i >= 60 || i >= log.size() || what < 0 || what > 3) return NONE;
        return log.get(log.size() - 1 - i)[what];
    }

    int count(int what) {
        return what < 0 || what > 10 ? NONE : counts[what];
    }

    int image(boolean taken) {
        if (taken) image = copy();
        else if (image == null) return 0;
        else assign(image);
        return 1;
    }

    int look(int what) {
        if (what < 0 || what > 14) return NONE;
        int waits = 0, going = 0, on = 0;
        int[] frames = new int[5];
        for (int t = 0; t < 6; t++) if (waitsFor(t) != null) waits |= 1 << t;
        for (int s = 0; s < 8; s++) {
            if (spans[s].state >= 2) going |= 1 << s;
            if (spans[s].state != 0) on++;
        }
        for (int f = 0; f < 256; f++) frames[frameState[f]]++;
        return new int[] {rate, tries, ratio, pause, tick, blocks.size(), on, frames[1], frames[2], frames[3], frames[4],
            waits, going, log.size(), 100 * framesOfZone(1) / framesOfZone(0)}[what];
    }
}
