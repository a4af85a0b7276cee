import java.util.Random;

/** Long runs of calls with fixed seeds, each answered by the class and by the plain model alike. */
public final class AgainstPlainTest {
    private static final int RUNS = 440;
    private static final int CALLS = 512;
    /** All that can be seen is far more than an object's 512 calls: half of the runs end with one of so many shares. */
    private static final int SHARES = 11;
    private static final int SHARE_CALLS = 190;
    private static int wrong = 0;

    private final Random random;
    private final SpansAway x = new SpansAway();
    private final PlainModel m = new PlainModel();
    private final int mood;

    private AgainstPlainTest(long seed) {
        random = new Random(seed);
        mood = (int) (seed % 4);
    }

    /** Mostly 0 .. most, now and then just outside, or far out. */
    private int upTo(int most) {
        int r = random.nextInt(60);
        if (r == 0) return -1;
        if (r == 1) return most + 1;
        if (r == 2) return random.nextBoolean() ? Integer.MIN_VALUE : Integer.MAX_VALUE;
        return random.nextInt(most + 1);
    }

    private int task() { return upTo(5); }
    private int span() { return upTo(7); }
    private int block() { return random.nextInt(8) == 0 ? upTo(95) : upTo(Math.max(1, m.blocks.size())); }

    /** A block that is on its way, if there is one, so that tasks do wait. */
    private int wayBlock() {
        if (random.nextInt(3) > 0) {
            for (PlainModel.Span s : m.spans) if (s.leaving != -1 && random.nextInt(3) > 0) return s.leaving;
        }
        return block();
    }

    private static int bit(boolean b) { return b ? 1 : 0; }

    private boolean same(String call, int got, int want) {
        if (got == want) return true;
        wrong++;
        System.out.println(call + " answered " + got + ", the plain model " + want);
        return false;
    }

    private boolean change() {
        int a, b, c, d;
        switch (random.nextInt(26)) {
            case 0: a = upTo(3); b = a == 2 ? upTo(400) : upTo(20); return same("set " + a + " " + b, bit(x.set(a, b)), m.set(a, b));
            case 1: a = task(); b = upTo(1); return same("home", bit(x.home(a, b)), m.home(a, b));
            case 2: case 3: case 4: case 5: case 6: case 7: case 8:
                a = task(); b = mood == 1 ? upTo(2) : random.nextInt(3) > 0 ? 0 : upTo(2);
                c = mood == 2 ? upTo(1) : upTo(4); d = random.nextInt();
                return same("take " + a + " " + b + " " + c, x.take(a, b, c, d), m.take(a, b, c, d));
            case 9: case 10: a = block(); return same("free " + a, bit(x.free(a)), m.free(a));
            case 11: a = task(); b = wayBlock(); c = upTo(3); return same("read", x.read(a, b, c), m.touch(a, b, 0, c, 0));
            case 12: a = task(); b = wayBlock(); c = upTo(3); d = random.nextInt();
                return same("write", x.write(a, b, c, d), m.touch(a, b, 1, c, d));
            case 13: a = task(); b = wayBlock(); return same("pin", x.pin(a, b), m.touch(a, b, 2, 0, 0));
            case 14: case 15: a = task(); b = block(); return same("unpin", bit(x.unpin(a, b)), m.unpin(a, b));
            case 16: a = span(); b = upTo(2); return same("come", x.come(a, b), m.come(a, b));
            case 17: a = random.nextInt(3) == 0 ? upTo(9) : 1; return same("byTurns", x.byTurns(a), m.byTurns(a));
            case 18: a = span(); return same("press " + a, x.press(a), m.press(a));
            case 19: a = task(); return same("gather " + a, x.gather(a), m.gather(a));
            case 20: case 21: a = span(); return same("go " + a, bit(x.go(a)), m.go(a));
            case 22: a = span(); return random.nextInt(3) > 0 || same("giveUp " + a, bit(x.giveUp(a)), m.giveUp(a));
            case 23: a = random.nextInt(20) == 0 ? upTo(62) : 1 + random.nextInt(6); return same("tick " + a, x.tick(a), m.tick(a));
            case 24: return same("tick 1", x.tick(1), m.tick(1));
            default: boolean taken = random.nextInt(3) > 0;
                return random.nextInt(4) > 0 || same("image " + taken, bit(x.image(taken)), m.image(taken));
        }
    }

    private boolean ask() {
        int a, b, c;
        switch (random.nextInt(40)) {
            case 0: case 1: case 2: a = upTo(255); b = upTo(2); return same("frame", x.frame(a, b), m.frame(a, b));
            case 3: case 4: case 5: a = block(); b = upTo(8); return same("block", x.block(a, b), m.block(a, b));
            case 6: case 7: case 8: a = span(); b = upTo(10); return same("span", x.span(a, b), m.span(a, b));
            case 9: case 10: a = task(); b = upTo(5); return same("task", x.task(a, b), m.task(a, b));
            case 11: case 12: a = upTo(1); b = upTo(2); return same("zone", x.zone(a, b), m.zone(a, b));
            case 13: case 14: a = upTo(1); b = upTo(5); return same("loose", x.loose(a, b), m.loose(a, b));
            case 15: case 16: a = task(); b = upTo(2); c = upTo(4); return same("place", x.place(a, b, c), m.place(a, b, c));
            case 17: case 18: a = upTo(255); return same("hole", x.hole(a), m.hole(a));
            case 19: case 20: case 21: a = span(); b = random.nextInt(5) - 1; c = upTo(3);
                return same("keeps " + a + " " + b + " " + c, x.keeps(a, b, c), m.keeps(a, b, c));
            case 22: a = span(); return same("holders", x.holders(a), m.holders(a));
            case 23: a = span(); return same("pressed", x.pressed(a), m.pressed(a));
            case 24: a = task(); b = upTo(1); return same("at", x.at(a, b), m.at(a, b));
            case 25: return same("movable", x.movable(), m.movable());
            case 26: case 27: a = span(); b = upTo(4); return same("would " + a + " " + b, x.would(a, b), m.would(a, b));
            case 28: a = upTo(1); return same("easiest " + a, x.easiest(a), m.easiest(a));
            case 29: return random.nextInt(4) > 0 || same("givenBack", x.givenBack(), m.givenBack());
            case 30: case 31: case 32: a = upTo(60); b = upTo(3); return same("log " + a + " " + b, x.log(a, b), m.log(a, b));
            case 33: case 34: case 35: a = upTo(10); return same("count " + a, x.count(a), m.count(a));
            default: a = upTo(14); return same("look " + a, x.look(a), m.look(a));
        }
    }

    /** One share of everything that can be seen, at the end of a run. */
    private boolean share(int mine) {
        boolean same = true;
        for (int k = mine; k < 256 * 3; k += SHARES) same &= same("frame " + k / 3 + " " + k % 3, x.frame(k / 3, k % 3), m.frame(k / 3, k % 3));
        for (int k = mine; k < 96 * 9; k += SHARES) same &= same("block " + k / 9 + " " + k % 9, x.block(k / 9, k % 9), m.block(k / 9, k % 9));
        for (int s = 0; s < 8; s++) same &= same("span " + s + " " + mine, x.span(s, mine), m.span(s, mine));
        for (int k = mine; k < 6 * 6; k += SHARES) same &= same("task " + k / 6 + " " + k % 6, x.task(k / 6, k % 6), m.task(k / 6, k % 6));
        for (int k = mine; k < 61 * 4; k += SHARES) same &= same("log " + k / 4 + " " + k % 4, x.log(k / 4, k % 4), m.log(k / 4, k % 4));
        same &= same("count " + mine, x.count(mine), m.count(mine));
        for (int k = mine; k < 15; k += SHARES) same &= same("look " + k, x.look(k), m.look(k));
        return same;
    }

    public static void main(String[] args) {
        int[] seen = new int[11];
        int runs = args.length > 0 ? Integer.parseInt(args[0]) : RUNS;
        for (int run = 0; run < runs && wrong < 20; run++) {
            AgainstPlainTest t = new AgainstPlainTest(run);
            boolean same = true;
            int calls = run / 4 % 2 == 0 ? CALLS : CALLS - SHARE_CALLS;
            for (int call = 0; call < calls && same; call++) {
                same = t.random.nextInt(10) < 6 ? t.change() : t.ask();
                if (!same) System.out.println("  in run " + run + ", call " + call);
            }
            if (same && calls < CALLS && !t.share(run % SHARES)) System.out.println("  at the end of run " + run);
            for (int c = 0; c < 11; c++) seen[c] += t.m.counts[c];
        }
        for (int c = 0; c < 11; c++) {
            if (seen[c] == 0) { wrong++; System.out.println("no run had anything for count " + c); }
        }
        System.out.println("counts seen " + java.util.Arrays.toString(seen) + ", " + wrong + " answers differ");
        if (wrong != 0) System.exit(1);
    }
}
