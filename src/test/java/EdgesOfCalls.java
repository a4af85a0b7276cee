import java.util.Arrays;
import java.util.function.Consumer;
import java.util.function.ToIntFunction;

/** A case for each edge that a promise names for its call: too small, too large, empty, full, refused. */
final class EdgesOfCalls {
    private static final int NONE = SpansAway.NONE;
    private static final int MOVABLE = 0;
    private static final int UNMOVABLE = 1;
    private static final int CACHE = 2;
    private static final int LEAST = Integer.MIN_VALUE;
    private static final int MOST = Integer.MAX_VALUE;
    /** Where a number is just outside of a range that begins with 0, or far outside; 32 and more wrap in a shift. */
    private static final int[] BELOW = {-1, -2, -31, -32, -33, LEAST, LEAST + 1};

    private final Check c;
    private final Document d;
    private final Story busy = busy();

    EdgesOfCalls(Check c, Document d) {
        this.c = c;
        this.d = d;
    }

    /**
     * At tick 6: span 0 on; 1 pauses with a pinned cache (3); 2 on; 3 moving, its block 0 on its way to 4, tasks 2 and
     * 5 in its line; 4, 6, 7 off; 5 shutting. Block 1 is unmovable and pinned by task 4, block 2 a cache.
     */
    static Story busy() {
        return new Story().then(x -> {
            x.come(2, 0);
            x.come(3, 1);
            x.come(5, 0);
            x.set(0, 1);
            x.set(3, 20);
            x.take(0, MOVABLE, 2, 10);
            x.take(1, UNMOVABLE, 0, 5);
            x.pin(4, 1);
            x.take(2, CACHE, 1, 7);
            x.home(3, 1);
            x.take(3, CACHE, 0, 9);
            x.pin(3, 3);
            x.go(3);
            x.go(1);
            x.tick(5);
            x.read(2, 0, 1);
            x.pin(5, 0);
            x.go(5);
            x.tick(1);
        });
    }

    /** A call that is refused: its answer is due, and nothing has changed. */
    private void refused(String call, ToIntFunction<SpansAway> made, int due) {
        c.is(call, made.applyAsInt(busy.told()), due);
        Consumer<SpansAway> step = made::applyAsInt;
        c.yes(call + " changes nothing", busy.then(step).isLike(busy));
    }

    /** A call that tells nothing, in any state. */
    private void none(String call, ToIntFunction<SpansAway> made) {
        c.is(call, made.applyAsInt(busy.told()), NONE);
        c.is(call + ", new", made.applyAsInt(new SpansAway()), NONE);
    }

    private static int bit(boolean b) {
        return b ? 1 : 0;
    }

    /** Below 0, and from the limit on. */
    private static int[] outside(int limit) {
        int[] all = Arrays.copyOf(BELOW, BELOW.length + 5);
        int k = BELOW.length;
        all[k] = limit;
        all[k + 1] = limit + 1;
        all[k + 2] = limit + 32;
        all[k + 3] = limit + 256;
        all[k + 4] = MOST;
        return all;
    }

    void all() {
        newObjects();
        setEdges();
        homeEdges();
        takeEdges();
        takeFull();
        freeEdges();
        readEdges();
        writeEdges();
        pinEdges();
        unpinEdges();
        comeEdges();
        byTurnsEdges();
        pressEdges();
        gatherEdges();
        goEdges();
        giveUpEdges();
        tickEdges();
        frameEdges();
        blockEdges();
        spanEdges();
        taskEdges();
        zoneEdges();
        looseEdges();
        placeEdges();
        holeEdges();
        keepsEdges();
        holdersEdges();
        pressedEdges();
        atEdges();
        movableEdges();
        wouldEdges();
        easiestEdges();
        givenBackEdges();
        logEdges();
        countEdges();
        imageEdges();
        lookEdges();
        lastCall();
    }

    private void newObjects() {
        d.says(1, "Two SPANS, nothing TAKEN");
        SpansAway x = busy.told();
        SpansAway y = new SpansAway();
        c.is("spans", y.look(6), 2);
        c.is("taken", y.look(9), 0);
        c.is("free", y.look(7), 64);
        c.is("blocks", y.look(5), 0);
        y.take(0, CACHE, 4, 0);
        c.is("the other object has its own", x.block(0, 1), 2);
        c.yes("each new one is alike", new Story().isLike(new Story()));
    }

    private void setEdges() {
        d.says(2, "What can be told (0 .. 3): true; false if it can't be");
        for (int w : outside(4)) {
            refused("set(" + w + ", 1)", x -> bit(x.set(w, 1)), 0);
        }
        int[][] wrong = {{0, 0}, {0, 17}, {1, 0}, {1, 10}, {2, -1}, {2, 401}, {3, 0}, {3, 21}};
        for (int[] w : wrong) {
            refused("set(" + w[0] + ", " + w[1] + ")", x -> bit(x.set(w[0], w[1])), 0);
        }
        for (int w = 0; w < 4; w++) {
            int what = w;
            refused("set(" + w + ", MIN)", x -> bit(x.set(what, LEAST)), 0);
            refused("set(" + w + ", MAX)", x -> bit(x.set(what, MOST)), 0);
            int before = new SpansAway().look(w);
            c.yes("what is told already", new SpansAway().set(w, before));
        }
    }

    private void homeEdges() {
        d.says(3, "HOME of a TASK: true; false if one can't be");
        for (int t : outside(6)) {
            refused("home(" + t + ", 0)", x -> bit(x.home(t, 0)), 0);
        }
        for (int n : outside(2)) {
            refused("home(3, " + n + ")", x -> bit(x.home(3, n)), 0);
        }
        SpansAway x = busy.told();
        for (int t = 0; t < 6; t++) {
            c.yes("home(" + t + ", 1)", x.home(t, 1));
            c.is("task(" + t + ", 0)", x.task(t, 0), 1);
            c.yes("home(" + t + ", 1) again", x.home(t, 1));
        }
    }

    private void takeEdges() {
        d.says(4, "NONE - 1 if one can't be");
        for (int t : outside(6)) {
            refused("take(" + t + ", 0, 0, 0)", x -> x.take(t, 0, 0, 0), NONE - 1);
        }
        for (int k : outside(3)) {
            refused("take(0, " + k + ", 0, 0)", x -> x.take(0, k, 0, 0), NONE - 1);
        }
        for (int o : outside(5)) {
            refused("take(0, 0, " + o + ", 0)", x -> x.take(0, 0, o, 0), NONE - 1);
        }
        SpansAway full = new SpansAway();
        for (int b = 0; b < 4; b++) {
            full.take(0, CACHE, 4, 0);
        }
        c.is("full, and it can't be", full.take(0, MOVABLE, 5, 0), NONE - 1);
        c.is("nothing is dropped", full.count(5), 0);
        c.is("it is not counted", full.count(1), 0);
    }

    private void takeFull() {
        d.says(4, "A TASK TAKES a BLOCK (VALUE any int): its number; NONE if it has none");
        SpansAway x = new SpansAway();
        for (int b = 0; b < 4; b++) {
            c.is("its number", x.take(b, UNMOVABLE, 4, b == 0 ? LEAST : MOST), b);
        }
        c.is("full", x.take(0, MOVABLE, 0, 0), NONE);
        c.is("full", x.take(0, CACHE, 4, 0), NONE);
        c.is("how often", x.count(1), 2);
        c.is("the least value", x.frame(0, 2), LEAST);
        c.is("the greatest value", x.frame(16, 2), MOST);
        x.free(2);
        c.is("as many as were free", x.take(0, UNMOVABLE, 4, 0), 2);
        c.is("full again", x.take(0, UNMOVABLE, 0, 0), NONE);
    }

    private void freeEdges() {
        d.says(5, "A BLOCK is freed: true; false if it is PINNED, on its way, or there is none such");
        for (int b : outside(96)) {
            refused("free(" + b + ")", x -> bit(x.free(b)), 0);
        }
        refused("free(0), on its way", x -> bit(x.free(0)), 0);
        refused("free(1), pinned", x -> bit(x.free(1)), 0);
        refused("free(4), none such", x -> bit(x.free(4)), 0);
        refused("free(95), none such", x -> bit(x.free(95)), 0);
        SpansAway x = busy.told();
        c.yes("free(2)", x.free(2));
        c.no("free(2) again", x.free(2));
        x.unpin(4, 1);
        c.yes("free(1), pinned no more", x.free(1));
        x.tick(2);
        c.no("arrived, but task 5 has pinned it", x.free(0));
        x.unpin(5, 0);
        c.yes("free(0), arrived", x.free(0));
    }

    private void readEdges() {
        d.says(6, "1 it WAITS; NONE if it WAITS already, or one can't be");
        for (int t : outside(6)) {
            refused("read(" + t + ", 1, 0)", x -> x.read(t, 1, 0), NONE);
        }
        for (int b : outside(96)) {
            refused("read(0, " + b + ", 0)", x -> x.read(0, b, 0), NONE);
        }
        for (int i : outside(1)) {
            refused("read(0, 1, " + i + ")", x -> x.read(0, 1, i), NONE);
        }
        for (int i : outside(4)) {
            refused("read(0, 0, " + i + "), on its way", x -> x.read(0, 0, i), NONE);
        }
        refused("read(0, 4, 0), none such", x -> x.read(0, 4, 0), NONE);
        refused("read(2, 1, 0), it waits", x -> x.read(2, 1, 0), NONE);
        refused("read(2, 0, 1), it waits for that", x -> x.read(2, 0, 1), NONE);
        SpansAway x = busy.told();
        c.is("the last frame of one on its way", x.read(0, 0, 3), 1);
        c.is("the first frame of one that stays", x.read(1, 2, 0), 0);
        c.is("the last frame of one that stays", x.read(1, 2, 1), 0);
        c.is("its value", x.task(1, 3), 8);
    }

    private void writeEdges() {
        d.says(7, "A TASK WRITES a VALUE, likewise");
        for (int t : outside(6)) {
            refused("write(" + t + ", 1, 0, 3)", x -> x.write(t, 1, 0, 3), NONE);
        }
        for (int b : outside(96)) {
            refused("write(0, " + b + ", 0, 3)", x -> x.write(0, b, 0, 3), NONE);
        }
        for (int i : outside(1)) {
            refused("write(0, 1, " + i + ", 3)", x -> x.write(0, 1, i, 3), NONE);
        }
        for (int i : outside(4)) {
            refused("write(0, 0, " + i + ", 3), on its way", x -> x.write(0, 0, i, 3), NONE);
        }
        refused("write(0, 4, 0, 3), none such", x -> x.write(0, 4, 0, 3), NONE);
        refused("write(2, 1, 0, 3), it waits", x -> x.write(2, 1, 0, 3), NONE);
        refused("write(2, 0, 1, 3), it waits for that", x -> x.write(2, 0, 1, 3), NONE);
        SpansAway x = busy.told();
        c.is("it waits", x.write(0, 0, 3, LEAST), 1);
        c.is("the greatest", x.write(1, 2, 1, MOST), 0);
        c.is("its frame", x.frame(3, 2), MOST);
        c.is("the frame ahead of it", x.frame(2, 2), 7);
        x.tick(2);
        c.is("the least, written when it has arrived", x.frame(7, 2), LEAST);
    }

    private void pinEdges() {
        d.says(8, "0, 1 likewise; NONE also if it has that PIN");
        for (int t : outside(6)) {
            refused("pin(" + t + ", 1)", x -> x.pin(t, 1), NONE);
        }
        for (int b : outside(96)) {
            refused("pin(0, " + b + ")", x -> x.pin(0, b), NONE);
        }
        refused("pin(4, 1), it has it", x -> x.pin(4, 1), NONE);
        refused("pin(0, 4), none such", x -> x.pin(0, 4), NONE);
        refused("pin(2, 1), it waits", x -> x.pin(2, 1), NONE);
        refused("pin(5, 0), it waits for that", x -> x.pin(5, 0), NONE);
        SpansAway x = busy.told();
        c.is("another's pin is none of its own", x.pin(0, 1), 0);
        c.is("both", x.block(1, 4), 17);
        c.is("on its way", x.pin(0, 0), 1);
        x.tick(2);
        c.is("both when it has arrived", x.block(0, 4), 33);
    }

    private void unpinEdges() {
        d.says(9, "A PIN goes: true; false if there is none such");
        for (int t : outside(6)) {
            refused("unpin(" + t + ", 1)", x -> bit(x.unpin(t, 1)), 0);
        }
        refused("unpin(36, 1), 32 more than 4", x -> bit(x.unpin(36, 1)), 0);
        for (int b : outside(96)) {
            refused("unpin(4, " + b + ")", x -> bit(x.unpin(4, b)), 0);
        }
        refused("unpin(0, 1), another's", x -> bit(x.unpin(0, 1)), 0);
        refused("unpin(4, 2), no pin", x -> bit(x.unpin(4, 2)), 0);
        refused("unpin(4, 4), no block", x -> bit(x.unpin(4, 4)), 0);
        refused("unpin(5, 0), it waits for it", x -> bit(x.unpin(5, 0)), 0);
        SpansAway x = busy.told();
        c.yes("unpin(4, 1)", x.unpin(4, 1));
        c.no("unpin(4, 1) again", x.unpin(4, 1));
        x.free(1);
        c.is("the number again", x.take(0, UNMOVABLE, 0, 0), 1);
        c.no("a new block has no pins", x.unpin(4, 1));
    }

    private void comeEdges() {
        d.says(10, "its ZONE; NONE if it is not OFF, or one can't be");
        for (int s : outside(8)) {
            refused("come(" + s + ", 0)", x -> x.come(s, 0), NONE);
        }
        for (int h : outside(3)) {
            refused("come(4, " + h + ")", x -> x.come(4, h), NONE);
        }
        for (int h = 0; h < 3; h++) {
            int how = h;
            refused("come(0, " + h + "), on", x -> x.come(0, how), NONE);
            refused("come(5, " + h + "), shutting", x -> x.come(5, how), NONE);
            refused("come(3, " + h + "), moving", x -> x.come(3, how), NONE);
            refused("come(1, " + h + "), pausing", x -> x.come(1, how), NONE);
        }
        SpansAway x = busy.told();
        c.is("come(4, 0)", x.come(4, 0), 0);
        c.is("come(6, 1)", x.come(6, 1), 1);
        c.is("come(7, 2)", x.come(7, 2), 1);
        c.is("come(7, 2) again", x.come(7, 2), NONE);
    }

    private void byTurnsEdges() {
        d.says(11, "BY TURNS n (1 .. 8): how many came (fewer, if there are fewer); NONE if n can't be");
        for (int n : BELOW) {
            refused("byTurns(" + n + ")", x -> x.byTurns(n), NONE);
        }
        for (int n : new int[] {0, 9, 10, 256, MOST}) {
            refused("byTurns(" + n + ")", x -> x.byTurns(n), NONE);
        }
        c.is("byTurns(1)", new SpansAway().byTurns(1), 1);
        c.is("byTurns(6)", new SpansAway().byTurns(6), 6);
        SpansAway x = new SpansAway();
        c.is("byTurns(8), there are six", x.byTurns(8), 6);
        c.is("byTurns(8), there is none", x.byTurns(8), 0);
        c.is("byTurns(9), there is none", x.byTurns(9), NONE);
        c.is("byTurns(2) of three", busy.told().byTurns(2), 2);
    }

    private void pressEdges() {
        d.says(12, "A SPAN is PRESSED: how many BLOCKS went");
        SpansAway x = new SpansAway();
        for (int b = 0; b < 32; b++) {
            x.take(0, MOVABLE, 0, b);
        }
        for (int b = 0; b < 16; b++) {
            x.free(b);
        }
        c.is("as many as there are", x.press(0), 16);
        c.is("none is left behind", x.hole(16), 4);
        c.is("the greatest is first", x.frame(0, 2), 31);
        c.is("the least is last", x.frame(15, 2), 16);
        c.is("nothing more", x.press(0), 0);
        c.is("went in all", x.count(10), 16);
        d.says(12, "NONE if it is not ON, or there is none such");
        for (int s : outside(8)) {
            refused("press(" + s + ")", y -> y.press(s), NONE);
        }
        for (int s : new int[] {1, 3, 4, 5, 7}) {
            refused("press(" + s + "), going or off", y -> y.press(s), NONE);
        }
        c.is("press(2), on", busy.told().press(2), 0);
    }

    private void gatherEdges() {
        d.says(13, "GATHERED for a TASK: how many BLOCKS went");
        SpansAway x = new SpansAway();
        for (int b = 0; b < 32; b++) {
            x.take(5, MOVABLE, 0, b);
        }
        c.is("all are at home", x.gather(5), 0);
        x.home(5, 1);
        c.is("all go", x.gather(5), 32);
        c.is("span 1 is full", x.span(1, 2), 0);
        c.is("span 0 is empty", x.span(0, 2), 32);
        c.is("went in all", x.count(10), 32);
        d.says(13, "NONE if there is none such");
        for (int t : outside(6)) {
            refused("gather(" + t + ")", y -> y.gather(t), NONE);
        }
        c.is("a task without blocks", busy.told().gather(5), 0);
    }

    private void goEdges() {
        d.says(14, "A SPAN begins TO GO: true; false if it can't be");
        for (int s : outside(8)) {
            refused("go(" + s + ")", x -> bit(x.go(s)), 0);
        }
        for (int s : new int[] {1, 3, 4, 5, 7}) {
            refused("go(" + s + "), going or off", x -> bit(x.go(s)), 0);
        }
        SpansAway x = busy.told();
        c.yes("go(2), 0 is on", x.go(2));
        c.no("go(0), all others of zone NORMAL are going", x.go(0));
        x.come(4, 1);
        c.no("go(0), the other is of zone MOVABLE", x.go(0));
        c.yes("go(4), 0 is on", x.go(4));
        x.come(6, 0);
        c.yes("go(0), 6 is on", x.go(0));
        c.no("go(6), none is on", x.go(6));
        c.is("all that are going", x.look(12), 63);
    }

    private void giveUpEdges() {
        d.says(15, "A SPAN that is GOING is GIVEN UP: true; false if there is none such");
        for (int s : outside(8)) {
            refused("giveUp(" + s + ")", x -> bit(x.giveUp(s)), 0);
        }
        for (int s : new int[] {0, 2, 4, 7}) {
            refused("giveUp(" + s + "), on or off", x -> bit(x.giveUp(s)), 0);
        }
        for (int s : new int[] {1, 3, 5}) {
            SpansAway x = busy.told();
            c.yes("giveUp(" + s + ")", x.giveUp(s));
            c.is("on", x.span(s, 0), 1);
            c.is("why", x.span(s, 10), 3);
            c.line(x, 0, 2, s, 3);
            c.no("giveUp(" + s + ") again", x.giveUp(s));
        }
    }

    private void tickEdges() {
        d.says(16, "NONE, and nothing is done, if n can't be");
        for (int n : BELOW) {
            refused("tick(" + n + ")", x -> x.tick(n), NONE);
        }
        for (int n : new int[] {0, 61, 62, 9999, MOST - 6, MOST}) {
            refused("tick(" + n + ")", x -> x.tick(n), NONE);
        }
        d.says(16, "n TICKS (1 .. 60): TICK");
        c.is("tick(1)", busy.told().tick(1), 7);
        c.is("tick(60)", busy.told().tick(60), 66);
        Story one = busy.then(x -> x.tick(60));
        Story each = busy.then(x -> {
            for (int k = 0; k < 60; k++) {
                x.tick(1);
            }
        });
        c.yes("60 at once are as 60 times one", one.isLike(each));
        d.says(16, "or it would be above 9999");
        SpansAway x = new SpansAway();
        for (int k = 0; k < 166; k++) {
            x.tick(60);
        }
        x.go(0);
        c.is("tick(40)", x.tick(40), NONE);
        c.is("nothing is done", x.look(4), 9960);
        c.is("nothing is done", x.span(0, 6), 0);
        c.is("tick(39)", x.tick(39), 9999);
        c.is("span 0 is off", x.span(0, 0), 0);
        c.is("tick(1)", x.tick(1), NONE);
        c.is("tick(60)", x.tick(60), NONE);
        c.is("tick(0)", x.tick(0), NONE);
        c.is("the last", x.look(4), 9999);
    }

    private void frameEdges() {
        d.says(17, "1 the BLOCK that has it, or for which it is HELD (NONE), 2 VALUE");
        SpansAway x = busy.told();
        int[][] due = {{96, 3, 0, 10}, {100, 2, NONE, 0}, {4, 4, 0, 10}, {7, 4, 0, 0}, {8, 1, NONE, 0}, {255, 0, NONE, 0}};
        for (int[] f : due) {
            for (int w = 0; w < 3; w++) {
                c.is("frame(" + f[0] + ", " + w + ")", x.frame(f[0], w), f[w + 1]);
            }
        }
        d.says(17, "NONE if there is no such FRAME, or another what (VALUE may be NONE, too)");
        for (int f : outside(256)) {
            for (int w = 0; w < 3; w++) {
                int what = w;
                none("frame(" + f + ", " + w + ")", y -> y.frame(f, what));
            }
        }
        for (int w : outside(3)) {
            none("frame(0, " + w + ")", y -> y.frame(0, w));
        }
        x.write(0, 2, 0, NONE);
        c.is("the value is NONE", x.frame(2, 2), NONE);
        c.is("and taken", x.frame(2, 0), 3);
    }

    private void blockEdges() {
        d.says(18, "5 where it is on its way to (its first FRAME; NONE)");
        SpansAway x = new SpansAway();
        x.set(0, 1);
        x.home(0, 1);
        x.take(0, MOVABLE, 1, 0);
        c.is("not on its way", x.block(0, 5), NONE);
        c.is("nothing is copied", x.block(0, 6), 0);
        x.home(0, 0);
        x.go(1);
        x.tick(5);
        c.is("to frame 0", x.block(0, 5), 0);
        c.is("its own first frame", x.block(0, 0), 32);
        c.is("one is copied", x.block(0, 6), 1);
        c.is("the line is empty", x.block(0, 8), 0);
        d.says(18, "NONE if there is none such, or another what");
        for (int w = 0; w < 9; w++) {
            int what = w;
            for (int b : outside(96)) {
                none("block(" + b + ", " + w + ")", y -> y.block(b, what));
            }
            none("block(95, " + w + "), none such", y -> y.block(95, what));
        }
        for (int w : outside(9)) {
            none("block(1, " + w + ")", y -> y.block(1, w));
        }
        x.tick(1);
        x.free(0);
        for (int w = 0; w < 9; w++) {
            c.is("freed, what " + w, x.block(0, w), NONE);
        }
    }

    private void spanEdges() {
        d.says(19, "7 PASS (0: not MOVING), 8 TICKS of PAUSE left, 9 the BLOCK on its way from it (NONE), 10 why it FAILED last (NONE)");
        SpansAway x = busy.told();
        int[][] due = {
            {1, 0, 25, 0, 3, 4, 0, 0, 0, NONE, NONE},
            {3, 0, 0, 31, 1, 0, 4, 2, 19, NONE, NONE},
            {1, 0, 32, 0, 0, 0, 0, 0, 0, NONE, NONE},
            {3, 1, 0, 28, 4, 0, 4, 1, 0, 0, NONE},
            {0, NONE, 0, 0, 0, 0, 0, 0, 0, NONE, NONE},
            {2, 0, 24, 8, 0, 0, 1, 0, 0, NONE, NONE}};
        for (int s = 0; s < due.length; s++) {
            for (int w = 0; w < 11; w++) {
                c.is("span(" + s + ", " + w + ")", x.span(s, w), due[s][w]);
            }
        }
        x.giveUp(5);
        c.is("why it failed last", x.span(5, 10), 3);
        d.says(19, "NONE if there is none such, or another what");
        for (int s : outside(8)) {
            for (int w = 0; w < 11; w++) {
                int what = w;
                none("span(" + s + ", " + w + ")", y -> y.span(s, what));
            }
        }
        for (int w : outside(11)) {
            none("span(0, " + w + ")", y -> y.span(0, w));
        }
    }

    private void taskEdges() {
        d.says(20, "1 whether it WAITS (1, 0), 2 for which BLOCK (NONE), 3 the VALUE that it READ last (0 at first), 4 BLOCKS that it OWNS, 5 PINS that it has");
        SpansAway x = busy.told();
        int[][] due = {{0, 0, NONE, 0, 1, 0}, {0, 0, NONE, 0, 1, 0}, {0, 1, 0, 0, 1, 0}, {1, 0, NONE, 0, 1, 1},
            {0, 0, NONE, 0, 0, 1}, {0, 1, 0, 0, 0, 0}};
        for (int t = 0; t < 6; t++) {
            for (int w = 0; w < 6; w++) {
                c.is("task(" + t + ", " + w + ")", x.task(t, w), due[t][w]);
            }
        }
        d.says(20, "NONE if there is none such, or another what (the VALUE may be NONE, too)");
        for (int t : outside(6)) {
            for (int w = 0; w < 6; w++) {
                int what = w;
                none("task(" + t + ", " + w + ")", y -> y.task(t, what));
            }
        }
        for (int w : outside(6)) {
            none("task(0, " + w + ")", y -> y.task(0, w));
        }
        x.write(4, 2, 0, NONE);
        x.read(4, 2, 0);
        c.is("the value is NONE", x.task(4, 3), NONE);
    }

    private void zoneEdges() {
        d.says(21, "1 FREE FRAMES (those of SPANS that are GOING, too), 2 the greatest ORDER (0 .. 5) of a PLACE in it (NONE: none)");
        SpansAway x = new SpansAway();
        c.is("no span is in it", x.zone(1, 0), 0);
        c.is("no frame", x.zone(1, 1), 0);
        c.is("no place", x.zone(1, 2), NONE);
        x.come(3, 1);
        for (int order = 4; order >= 0; order--) {
            c.is("the greatest order", x.zone(1, 2), order + 1);
            x.take(0, MOVABLE, order, 0);
        }
        c.is("one frame", x.zone(1, 1), 1);
        c.is("of order 0", x.zone(1, 2), 0);
        x.take(0, MOVABLE, 0, 0);
        c.is("full", x.zone(1, 1), 0);
        c.is("no place", x.zone(1, 2), NONE);
        c.is("the span", x.zone(1, 0), 1);
        SpansAway y = new SpansAway();
        y.go(0);
        y.tick(3);
        c.is("a part of the one that goes", y.zone(0, 1), 40);
        y.tick(2);
        c.is("it is off", y.zone(0, 0), 1);
        d.says(21, "NONE if there is none such, or another what");
        for (int z : outside(2)) {
            for (int w = 0; w < 3; w++) {
                int what = w;
                none("zone(" + z + ", " + w + ")", v -> v.zone(z, what));
            }
        }
        for (int w : outside(3)) {
            none("zone(0, " + w + ")", v -> v.zone(0, w));
        }
    }

    private void looseEdges() {
        d.says(22, "LOOSE of an ORDER (0 .. 5) in a ZONE");
        SpansAway x = new SpansAway();
        x.take(0, MOVABLE, 4, 0);
        c.is("order 4: the other half is a place", x.loose(0, 4), 0);
        c.is("order 5: it is not", x.loose(0, 5), 16);
        d.says(22, "NONE if one can't be");
        for (int z : outside(2)) {
            none("loose(" + z + ", 0)", y -> y.loose(z, 0));
        }
        for (int o : outside(6)) {
            none("loose(0, " + o + ")", y -> y.loose(0, o));
        }
    }

    private void placeEdges() {
        d.says(23, "would have now (nothing DROPPED): its first FRAME");
        SpansAway x = new SpansAway();
        c.is("empty", x.place(0, MOVABLE, 4), 0);
        for (int b = 0; b < 4; b++) {
            x.take(0, CACHE, 4, 0);
        }
        SpansAway going = new SpansAway();
        going.go(0);
        going.tick(1);
        c.is("in a span that is going, too", going.place(0, UNMOVABLE, 2), 8);
        d.says(23, "NONE if there is none, or one can't be");
        for (int order = 0; order <= 4; order++) {
            c.is("full of caches", x.place(0, MOVABLE, order), NONE);
        }
        c.is("they are there", x.look(5), 4);
        for (int t : outside(6)) {
            none("place(" + t + ", 0, 0)", y -> y.place(t, 0, 0));
        }
        for (int k : outside(3)) {
            none("place(0, " + k + ", 0)", y -> y.place(0, k, 0));
        }
        for (int o : outside(5)) {
            none("place(0, 0, " + o + ")", y -> y.place(0, 0, o));
        }
    }

    private void holeEdges() {
        d.says(24, "HOLE (an ORDER) of the FRAME by itself");
        SpansAway x = new SpansAway();
        x.take(0, MOVABLE, 0, 0);
        c.is("a frame in a hole of two, the second", x.hole(3), 1);
        c.is("alone", x.hole(1), 0);
        c.is("the last of all that are on", x.hole(63), 5);
        d.says(24, "NONE if it is not FREE, or there is none such");
        SpansAway y = busy.told();
        c.is("taken", y.hole(0), NONE);
        c.is("held", y.hole(4), NONE);
        c.is("apart", y.hole(160), NONE);
        c.is("off", y.hole(128), NONE);
        c.is("free", y.hole(8), 3);
        for (int f : outside(256)) {
            none("hole(" + f + ")", z -> z.hole(f));
        }
    }

    private void keepsEdges() {
        d.says(25, "Of the i-th of those who KEEP a SPAN (i NONE: how many)");
        SpansAway x = busy.told();
        c.is("how many", x.keeps(0, NONE, 0), 1);
        c.is("the first", x.keeps(0, 0, 0), 1);
        c.is("a pinned cache in one that pauses", x.keeps(1, 0, 0), 3);
        c.is("why", x.keeps(1, 0, 1), 1);
        c.is("its owner", x.keeps(1, 0, 2), 3);
        c.is("its pins", x.keeps(1, 0, 3), 8);
        c.is("on its way, with a place beside", x.keeps(3, NONE, 0), 0);
        d.says(25, "NONE if there is none such, or another what");
        c.is("the second", x.keeps(0, 1, 0), NONE);
        c.is("of an empty one", x.keeps(2, 0, 0), NONE);
        for (int s : outside(8)) {
            none("keeps(" + s + ", NONE, 0)", y -> y.keeps(s, NONE, 0));
            none("keeps(" + s + ", 0, 0)", y -> y.keeps(s, 0, 0));
        }
        for (int i : outside(2)) {
            if (i != NONE) {
                none("keeps(0, " + i + ", 0)", y -> y.keeps(0, i, 0));
            }
        }
        for (int w : outside(4)) {
            none("keeps(0, 0, " + w + ")", y -> y.keeps(0, 0, w));
        }
    }

    private void holdersEdges() {
        d.says(26, "TASKS (a set) that OWN an UNMOVABLE BLOCK that KEEPS a SPAN, or PIN one that does");
        SpansAway x = busy.told();
        c.is("owner 1, pin of 4", x.holders(0), 18);
        c.is("pin of 3", x.holders(1), 8);
        c.is("nobody", x.holders(2), 0);
        c.is("off", x.holders(4), 0);
        SpansAway y = new SpansAway();
        for (int t = 0; t < 6; t++) {
            y.take(t, UNMOVABLE, 0, 0);
        }
        c.is("all", y.holders(0), 63);
        d.says(26, "NONE if there is no such SPAN");
        for (int s : outside(8)) {
            none("holders(" + s + ")", z -> z.holders(s));
        }
    }

    private void pressedEdges() {
        d.says(27, "The greatest ORDER of a PLACE in a SPAN, if it were PRESSED (in thought)");
        SpansAway x = new SpansAway();
        c.is("empty", x.pressed(0), 5);
        for (int b = 0; b < 32; b++) {
            x.take(0, MOVABLE, 0, b);
        }
        d.says(27, "NONE if there would be none, it is not ON, or there is none such");
        c.is("full", x.pressed(0), NONE);
        for (int b = 0; b < 32; b += 2) {
            x.free(b);
        }
        c.is("every second frame", x.zone(0, 1), 48);
        c.is("half of it", x.pressed(0), 4);
        c.is("in thought", x.hole(0), 0);
        x.pin(0, 17);
        c.is("a pin at 17", x.pressed(0), 3);
        for (int s : new int[] {1, 3, 4, 5, 7}) {
            refused("pressed(" + s + "), going or off", y -> y.pressed(s), NONE);
        }
        for (int s : outside(8)) {
            none("pressed(" + s + ")", y -> y.pressed(s));
        }
    }

    private void atEdges() {
        d.says(28, "How many FRAMES the BLOCKS of a TASK have (TAKEN) in SPANS of a NODE");
        SpansAway x = busy.told();
        c.is("held does not count", x.at(0, 0), 0);
        c.is("where it still lies", x.at(0, 1), 4);
        x.tick(2);
        c.is("arrived", x.at(0, 0), 4);
        c.is("arrived", x.at(0, 1), 0);
        SpansAway y = new SpansAway();
        y.byTurns(6);
        for (int b = 0; b < 16; b++) {
            y.take(5, MOVABLE, 4, 0);
        }
        c.is("all of node 0", y.at(5, 0), 128);
        c.is("all of node 1", y.at(5, 1), 128);
        c.is("another task", y.at(4, 1), 0);
        d.says(28, "NONE if one can't be");
        for (int t : outside(6)) {
            none("at(" + t + ", 0)", z -> z.at(t, 0));
        }
        for (int n : outside(2)) {
            none("at(0, " + n + ")", z -> z.at(0, n));
        }
    }

    private void movableEdges() {
        d.says(29, "could come ON one after the other by RATIO, all of them MOVABLE");
        int[][] due = {{0, 0}, {49, 0}, {50, 1}, {99, 1}, {100, 2}, {299, 5}, {300, 6}, {400, 6}};
        for (int[] one : due) {
            SpansAway x = new SpansAway();
            x.set(2, one[0]);
            c.is("ratio " + one[0], x.movable(), one[1]);
            c.is("so many come", x.byTurns(8), 6);
            c.is("none is left", x.movable(), 0);
        }
        SpansAway y = new SpansAway();
        y.come(2, 1);
        c.is("one is there", y.movable(), 2);
        y.go(2);
        c.is("and still there while it goes", y.movable(), 2);
        y.tick(5);
        c.is("it is off", y.movable(), 3);
    }

    private void wouldEdges() {
        d.says(30, "what 0 whether it would be OFF (1, 0), 1 in how many TICKS (FAILED, too; 500: neither)");
        SpansAway x = new SpansAway();
        x.take(0, CACHE, 0, 0);
        x.take(0, MOVABLE, 1, 0);
        int[] due = {1, 5, 2, 0, 1};
        for (int w = 0; w < 5; w++) {
            c.is("would(0, " + w + ")", x.would(0, w), due[w]);
        }
        x.take(0, UNMOVABLE, 3, 0);
        int[] fails = {0, 2, 0, 0, 0};
        for (int w = 0; w < 5; w++) {
            c.is("it fails, what " + w, x.would(0, w), fails[w]);
        }
        d.says(30, "NONE if it can't begin to go, or another what");
        for (int w = 0; w < 5; w++) {
            int what = w;
            for (int s : outside(8)) {
                none("would(" + s + ", " + w + ")", y -> y.would(s, what));
            }
            for (int s : new int[] {1, 3, 4, 5, 7}) {
                c.is("would(" + s + ", " + w + "), going or off", busy.told().would(s, w), NONE);
            }
        }
        for (int w : outside(5)) {
            none("would(0, " + w + ")", y -> y.would(0, w));
        }
    }

    private void easiestEdges() {
        d.says(31, "EASIEST what 0 the SPAN, 1 in how many TICKS");
        SpansAway x = new SpansAway();
        c.is("span 0 is no NONE", x.easiest(0), 0);
        c.is("in", x.easiest(1), 5);
        d.says(31, "NONE if there is none, or another what");
        for (int w : outside(2)) {
            none("easiest(" + w + ")", y -> y.easiest(w));
        }
        x.go(0);
        c.is("none", x.easiest(0), NONE);
        c.is("none", x.easiest(1), NONE);
    }

    private void givenBackEdges() {
        d.says(32, "GIVEN BACK");
        SpansAway x = new SpansAway();
        c.is("one of two", x.givenBack(), 1);
        x.go(0);
        c.is("none", x.givenBack(), 0);
        x.tick(5);
        c.is("the last one stays", x.givenBack(), 0);
        x.come(2, 1);
        c.is("one of zone MOVABLE", x.givenBack(), 1);
        x.byTurns(8);
        c.is("seven of eight", x.givenBack(), 7);
    }

    private void logEdges() {
        d.says(33, "Of line i of THE LOG (0: the latest)");
        SpansAway x = busy.told();
        c.line(x, 0, 0, 5, 1);
        c.line(x, 1, 7, 5, 0);
        c.line(x, 2, 7, 2, 0);
        c.is("its tick", x.log(2, 0), 5);
        c.is("lines", x.look(13), 8);
        c.line(x, 7, 3, 2, 0);
        d.says(33, "NONE if there is none such, or another what");
        for (int w = 0; w < 4; w++) {
            int what = w;
            c.is("log(8, " + w + ")", x.log(8, w), NONE);
            for (int i : outside(60)) {
                none("log(" + i + ", " + w + ")", y -> y.log(i, what));
            }
        }
        for (int w : outside(4)) {
            none("log(0, " + w + ")", y -> y.log(0, w));
        }
    }

    private void countEdges() {
        d.says(34, "1 how often it had none");
        SpansAway x = new SpansAway();
        x.take(0, MOVABLE, 5, 0);
        c.is("it can't be: not counted", x.count(1), 0);
        for (int b = 0; b < 5; b++) {
            x.take(0, UNMOVABLE, 4, 0);
        }
        c.is("came", x.count(0), 4);
        c.is("had none", x.count(1), 1);
        d.says(34, "7 FAILED (GIVEN UP, too), 8 how often a TASK had to WAIT, 9 PASSES that were over, 10 BLOCKS that went AT ONCE");
        SpansAway y = busy.told();
        int[] due = {4, 0, 0, 2, 0, 0, 0, 0, 2, 1, 0};
        for (int w = 0; w < due.length; w++) {
            c.is("count(" + w + ")", y.count(w), due[w]);
        }
        y.giveUp(5);
        y.giveUp(1);
        c.is("given up", y.count(7), 2);
        d.says(34, "NONE for another what");
        for (int w : outside(11)) {
            none("count(" + w + ")", z -> z.count(w));
        }
    }

    private void imageEdges() {
        d.says(35, "true; false if there is none");
        refused("image(false), none is taken", x -> bit(x.image(false)), 0);
        SpansAway x = new SpansAway();
        c.no("none", x.image(false));
        c.yes("taken", x.image(true));
        c.yes("gone back to", x.image(false));
        c.yes("gone back to again", x.image(false));
        c.yes("taken anew", x.image(true));
        c.no("another object has none", new SpansAway().image(false));
    }

    private void lookEdges() {
        d.says(36, "11 TASKS that WAIT (a set), 12 SPANS that are GOING (a set), 13 lines of THE LOG (all that came)");
        SpansAway x = busy.told();
        int[] due = {1, 3, 150, 20, 6, 4, 5, 81, 67, 8, 4, 36, 42, 8, 25};
        for (int w = 0; w < due.length; w++) {
            c.is("look(" + w + ")", x.look(w), due[w]);
        }
        d.says(36, "14 100 times FRAMES of ZONE MOVABLE by those of ZONE NORMAL (downwards)");
        SpansAway y = new SpansAway();
        c.is("none", y.look(14), 0);
        y.come(2, 0);
        y.come(4, 1);
        c.is("1 by 3", y.look(14), 33);
        y.come(6, 1);
        c.is("2 by 3", y.look(14), 66);
        y.come(3, 1);
        y.come(5, 1);
        y.come(7, 1);
        c.is("5 by 3", y.look(14), 166);
        y.go(0);
        y.go(2);
        y.tick(5);
        y.come(0, 1);
        y.come(2, 1);
        c.is("7 by 1", y.look(14), 700);
        d.says(36, "NONE for another what");
        for (int w : outside(15)) {
            none("look(" + w + ")", z -> z.look(w));
        }
    }

    /** An object is used for at most 512 calls: the last of them is as good as the first. */
    private void lastCall() {
        c.about("An object is used for at most 512 calls");
        SpansAway x = new SpansAway();
        x.take(0, MOVABLE, 0, 0);
        for (int call = 2; call < 512; call++) {
            x.write(0, 0, 0, call);
        }
        c.is("call 512: used", x.block(0, 7), 511);
        SpansAway y = new SpansAway();
        for (int call = 1; call < 512; call++) {
            if (call % 2 == 1) {
                y.go(0);
            } else {
                y.giveUp(0);
            }
        }
        c.is("call 512: lines", y.look(13), 511);
        SpansAway z = new SpansAway();
        for (int call = 1; call < 512; call++) {
            z.take(call % 6, CACHE, 4, call);
        }
        c.is("call 512: dropped", z.count(5), 507);
    }
}
