/** Promises 1 to 16 and 35: the calls that change something. Answers are worked out by hand from the document. */
public final class DoPromisesTest {
    private static final int NONE = SpansAway.NONE;
    private static final int MOVABLE = 0;
    private static final int UNMOVABLE = 1;
    private static final int CACHE = 2;
    private static final Check c = new Check("DoPromisesTest");

    public static void main(String[] args) {
        newObject();
        set();
        home();
        takeBestPlace();
        takeDrops();
        takeNoNumber();
        takeWrong();
        free();
        read();
        write();
        pin();
        unpin();
        come();
        byTurns();
        press();
        gather();
        go();
        goMovesAndPauses();
        goTargetGoesToo();
        giveUp();
        tick();
        image();
        c.end();
    }

    /** Block 0 (order 1, frames 0, 1) is on its way from span 0 to 32, one of two values copied, at tick 5. */
    private static SpansAway onItsWay() {
        SpansAway x = new SpansAway();
        x.set(0, 1);
        x.take(0, MOVABLE, 1, 10);
        x.go(0);
        x.tick(5);
        return x;
    }

    private static void newObject() {
        c.promise(1);
        SpansAway x = new SpansAway();
        int[] look = {4, 3, 150, 2, 0, 0, 2, 64, 0, 0, 0, 0, 0, 0, 0};
        for (int w = 0; w < look.length; w++) {
            c.is("look(" + w + ")", x.look(w), look[w]);
        }
        int[] on = {1, 0, 32, 0, 0, 0, 0, 0, 0, NONE, NONE};
        int[] off = {0, NONE, 0, 0, 0, 0, 0, 0, 0, NONE, NONE};
        for (int s = 0; s < 8; s++) {
            for (int w = 0; w < on.length; w++) {
                c.is("span(" + s + ", " + w + ")", x.span(s, w), s < 2 ? on[w] : off[w]);
            }
        }
        for (int f = 0; f < 256; f++) {
            SpansAway y = new SpansAway();
            c.is("frame(" + f + ", 0)", y.frame(f, 0), f < 64 ? 1 : 0);
            c.is("frame(" + f + ", 1)", y.frame(f, 1), NONE);
            c.is("frame(" + f + ", 2)", y.frame(f, 2), 0);
        }
        for (int b = 0; b < 96; b++) {
            c.is("block(" + b + ", 0)", x.block(b, 0), NONE);
        }
        int[] task = {0, 0, NONE, 0, 0, 0};
        for (int t = 0; t < 6; t++) {
            for (int w = 0; w < task.length; w++) {
                c.is("task(" + t + ", " + w + ")", x.task(t, w), task[w]);
            }
        }
        for (int w = 0; w < 11; w++) {
            c.is("count(" + w + ")", x.count(w), 0);
        }
        c.is("log(0, 0)", x.log(0, 0), NONE);
        c.no("image(false)", x.image(false));
    }

    private static void set() {
        c.promise(2);
        SpansAway x = new SpansAway();
        int[] least = {1, 1, 0, 1};
        int[] most = {16, 9, 400, 20};
        for (int w = 0; w < 4; w++) {
            c.yes("set least of " + w, x.set(w, least[w]));
            c.is("look(" + w + ")", x.look(w), least[w]);
            c.yes("set most of " + w, x.set(w, most[w]));
            c.is("look(" + w + ")", x.look(w), most[w]);
            c.no("set below least of " + w, x.set(w, least[w] - 1));
            c.no("set above most of " + w, x.set(w, most[w] + 1));
            c.no("set far out of " + w, x.set(w, Integer.MIN_VALUE));
            c.is("look(" + w + ") as before", x.look(w), most[w]);
        }
        c.no("set(-1, 1)", x.set(-1, 1));
        c.no("set(4, 1)", x.set(4, 1));
        c.no("set(MAX, 1)", x.set(Integer.MAX_VALUE, 1));
    }

    private static void home() {
        c.promise(3);
        SpansAway x = new SpansAway();
        c.yes("home(3, 1)", x.home(3, 1));
        c.is("task(3, 0)", x.task(3, 0), 1);
        c.is("task(2, 0)", x.task(2, 0), 0);
        c.is("take at home", x.block(x.take(3, UNMOVABLE, 0, 1), 0), 32);
        c.yes("home(3, 0)", x.home(3, 0));
        c.is("take at the new home", x.block(x.take(3, UNMOVABLE, 0, 1), 0), 0);
        c.no("home(-1, 0)", x.home(-1, 0));
        c.no("home(6, 0)", x.home(6, 0));
        c.no("home(0, -1)", x.home(0, -1));
        c.no("home(0, 2)", x.home(0, 2));
    }

    private static void takeBestPlace() {
        c.promise(4);
        SpansAway x = new SpansAway();
        x.come(2, 1);
        x.come(3, 1);
        c.is("movable first in zone MOVABLE", x.block(x.take(0, MOVABLE, 4, Integer.MAX_VALUE), 0), 64);
        c.is("VALUE", x.frame(64, 2), Integer.MAX_VALUE);
        c.is("VALUE, 1 more", x.frame(65, 2), Integer.MIN_VALUE);
        c.is("VALUE, 15 more", x.frame(79, 2), Integer.MIN_VALUE + 14);
        c.is("others in zone NORMAL", x.block(x.take(0, CACHE, 0, 1), 0), 0);
        c.is("least hole", x.block(x.take(0, UNMOVABLE, 1, 1), 0), 2);
        c.is("least hole, order 0", x.block(x.take(0, UNMOVABLE, 0, 1), 0), 1);
        c.is("second half", x.block(x.take(0, MOVABLE, 4, 0), 0), 80);
        c.is("zone ahead of node", x.block(x.take(0, MOVABLE, 4, 0), 0), 96);
        c.is("zone ahead of node", x.block(x.take(0, MOVABLE, 4, 0), 0), 112);
        c.is("zone NORMAL at last", x.block(x.take(0, MOVABLE, 0, 0), 0), 4);
        c.is("used", x.block(7, 7), 8);
        c.is("count(0)", x.count(0), 8);
        x.free(1);
        c.is("least number", x.take(0, MOVABLE, 0, 0), 1);
        c.is("count(0)", x.count(0), 9);

        SpansAway y = new SpansAway();
        y.take(1, UNMOVABLE, 4, 0);
        y.take(1, UNMOVABLE, 4, 0);
        y.home(0, 0);
        c.is("away, if there is none at home", y.block(y.take(0, MOVABLE, 4, 0), 0), 32);
        y.go(1);
        y.tick(1);
        c.is("in a span that is going", y.block(y.take(0, MOVABLE, 4, 0), 0), 48);
        c.is("its state", y.span(1, 0), 2);
    }

    private static void takeDrops() {
        c.promise(4);
        SpansAway x = new SpansAway();
        for (int b = 0; b < 4; b++) {
            x.take(0, CACHE, 4, b);
        }
        x.read(0, 0, 0);
        c.is("drops the least used", x.take(1, UNMOVABLE, 4, 9), 1);
        c.is("its place", x.block(1, 0), 16);
        c.line(x, 0, 6, 1, 16);
        x.pin(2, 2);
        c.is("passes one that is pinned", x.take(1, UNMOVABLE, 4, 9), 3);
        c.line(x, 0, 6, 3, 48);
        c.is("then the one that was read", x.take(1, MOVABLE, 4, 9), 0);
        c.is("none left", x.take(1, MOVABLE, 0, 9), NONE);
        c.is("count(1)", x.count(1), 1);
        c.is("count(5)", x.count(5), 3);
        c.is("the pinned one stays", x.block(2, 2), CACHE);

        SpansAway y = new SpansAway();
        for (int b = 0; b < 3; b++) {
            y.take(0, UNMOVABLE, 4, b);
        }
        y.take(0, UNMOVABLE, 3, 0);
        y.take(0, CACHE, 2, 0);
        y.take(0, CACHE, 2, 0);
        c.is("none in the end", y.take(0, MOVABLE, 4, 0), NONE);
        c.is("what was dropped is gone", y.look(7), 8);
        c.is("count(5)", y.count(5), 2);
        c.is("count(0)", y.count(0), 6);
        c.is("only as many as must", y.take(0, CACHE, 2, 0), 4);
        c.is("only as many as must", y.take(0, CACHE, 2, 0), 5);
        c.is("only as many as must", y.take(0, MOVABLE, 1, 0), 4);
        c.is("block 5 stays", y.block(5, 2), CACHE);
    }

    private static void takeNoNumber() {
        c.promise(4);
        SpansAway x = new SpansAway();
        x.come(2, 0);
        for (int b = 0; b < 96; b++) {
            c.is("take " + b, x.take(b % 6, b == 5 ? CACHE : MOVABLE, 0, b), b);
        }
        x.come(3, 0);
        c.is("a place, but no number", x.take(0, MOVABLE, 0, 0), NONE);
        c.is("nothing is dropped", x.count(5), 0);
        c.is("count(1)", x.count(1), 1);
        c.is("a place of order 4, but no number", x.take(0, UNMOVABLE, 4, 0), NONE);
        x.go(3);
        x.tick(5);
        c.is("span 3 is off", x.span(3, 0), 0);
        c.is("neither place nor number: the cache gives both", x.take(0, MOVABLE, 0, 0), 5);
        c.is("count(5)", x.count(5), 1);
    }

    private static void takeWrong() {
        c.promise(4);
        SpansAway x = new SpansAway();
        int[][] wrong = {{-1, 0, 0}, {6, 0, 0}, {0, -1, 0}, {0, 3, 0}, {0, 0, -1}, {0, 0, 5}, {0, 0, 32}};
        for (int[] w : wrong) {
            c.is("take can't be", x.take(w[0], w[1], w[2], 0), NONE - 1);
        }
        c.is("count(1)", x.count(1), 0);
    }

    private static void free() {
        c.promise(5);
        SpansAway x = new SpansAway();
        x.take(0, MOVABLE, 2, 7);
        x.pin(1, 0);
        c.no("free of a pinned one", x.free(0));
        x.unpin(1, 0);
        c.yes("free", x.free(0));
        c.no("free of none", x.free(0));
        c.is("frame(3, 0)", x.frame(3, 0), 1);
        c.is("frame(3, 1)", x.frame(3, 1), NONE);
        c.is("frame(3, 2)", x.frame(3, 2), 0);
        c.no("free(-1)", x.free(-1));
        c.no("free(96)", x.free(96));
        c.no("free(MIN)", x.free(Integer.MIN_VALUE));
        c.is("no line of the log", x.look(13), 0);

        x.take(0, MOVABLE, 4, 7);
        x.go(0);
        x.tick(1);
        c.yes("free of one half in a shut part", x.free(0));
        c.is("span(0, 3)", x.span(0, 3), 8);
        c.is("span(0, 2)", x.span(0, 2), 24);
        c.is("frame(7, 0)", x.frame(7, 0), 2);
        c.is("frame(8, 0)", x.frame(8, 0), 1);

        c.no("free of one on its way", onItsWay().free(0));
    }

    private static void read() {
        c.promise(6);
        SpansAway x = new SpansAway();
        x.take(0, MOVABLE, 1, -1);
        c.is("read", x.read(5, 0, 0), 0);
        c.is("task(5, 3)", x.task(5, 3), -1);
        c.is("read", x.read(5, 0, 1), 0);
        c.is("task(5, 3)", x.task(5, 3), 0);
        c.is("used", x.block(0, 7), 3);
        int[][] wrong = {{-1, 0, 0}, {6, 0, 0}, {0, -1, 0}, {0, 1, 0}, {0, 96, 0}, {0, 0, -1}, {0, 0, 2}};
        for (int[] w : wrong) {
            c.is("read can't be", x.read(w[0], w[1], w[2]), NONE);
        }
        c.is("used as before", x.block(0, 7), 3);
        c.is("no line of the log", x.look(13), 0);

        SpansAway y = onItsWay();
        c.is("copied", y.block(0, 6), 1);
        c.is("i can't be, on its way", y.read(3, 0, 2), NONE);
        c.is("waits", y.read(3, 0, 1), 1);
        c.is("waits too", y.read(1, 0, 0), 1);
        c.is("waits already", y.read(3, 0, 0), NONE);
        c.line(y, 0, 7, 1, 0);
        c.line(y, 1, 7, 3, 0);
        c.is("count(8)", y.count(8), 2);
        c.is("the line", y.block(0, 8), 2);
        c.is("used as before", y.block(0, 7), 1);
        c.is("a task that waits may take", y.take(3, MOVABLE, 0, 5), 1);
        y.tick(1);
        c.is("task(3, 3)", y.task(3, 3), 11);
        c.is("task(1, 3)", y.task(1, 3), 10);
        c.is("task(3, 1)", y.task(3, 1), 0);
        c.is("the line", y.block(0, 8), 0);
        c.is("used", y.block(0, 7), 4);
        c.line(y, 0, 1, 0, 1);
        c.line(y, 1, 8, 1, 0);
        c.line(y, 2, 8, 3, 0);
        c.line(y, 3, 4, 0, 32);
    }

    private static void write() {
        c.promise(7);
        SpansAway x = new SpansAway();
        x.take(0, UNMOVABLE, 1, 10);
        c.is("write", x.write(5, 0, 1, -7), 0);
        c.is("frame(1, 2)", x.frame(1, 2), -7);
        c.is("frame(0, 2)", x.frame(0, 2), 10);
        c.is("task(5, 3)", x.task(5, 3), 0);
        c.is("used", x.block(0, 7), 2);
        int[][] wrong = {{-1, 0, 0}, {6, 0, 0}, {0, -1, 0}, {0, 1, 0}, {0, 96, 0}, {0, 0, -1}, {0, 0, 2}};
        for (int[] w : wrong) {
            c.is("write can't be", x.write(w[0], w[1], w[2], 1), NONE);
        }

        SpansAway y = onItsWay();
        c.is("waits", y.write(2, 0, 0, 99), 1);
        c.is("waits", y.write(3, 0, 0, 98), 1);
        c.is("waits", y.read(4, 0, 0), 1);
        c.is("waits already", y.write(2, 0, 0, 97), NONE);
        c.is("not written yet", y.frame(0, 2), 10);
        y.tick(1);
        c.is("written in order", y.frame(32, 2), 98);
        c.is("read behind both", y.task(4, 3), 98);
        c.is("used", y.block(0, 7), 4);
    }

    private static void pin() {
        c.promise(8);
        SpansAway x = new SpansAway();
        x.take(0, MOVABLE, 0, 0);
        c.is("pin", x.pin(1, 0), 0);
        c.is("pin", x.pin(4, 0), 0);
        c.is("pin that it has", x.pin(1, 0), NONE);
        c.is("block(0, 4)", x.block(0, 4), 18);
        c.is("task(4, 5)", x.task(4, 5), 1);
        c.is("used as before", x.block(0, 7), 1);
        c.is("pin(-1, 0)", x.pin(-1, 0), NONE);
        c.is("pin(6, 0)", x.pin(6, 0), NONE);
        c.is("pin(0, -1)", x.pin(0, -1), NONE);
        c.is("pin(0, 1)", x.pin(0, 1), NONE);
        c.is("pin(0, 96)", x.pin(0, 96), NONE);

        SpansAway y = onItsWay();
        c.is("waits", y.pin(2, 0), 1);
        c.is("waits already", y.pin(2, 0), NONE);
        c.is("no pin yet", y.block(0, 4), 0);
        y.tick(1);
        c.is("pinned", y.block(0, 4), 4);
        c.line(y, 1, 8, 2, 0);
        c.is("used as before", y.block(0, 7), 1);
    }

    private static void unpin() {
        c.promise(9);
        SpansAway x = new SpansAway();
        x.take(0, MOVABLE, 0, 0);
        x.pin(1, 0);
        c.no("unpin of another", x.unpin(0, 0));
        c.no("unpin(-1, 0)", x.unpin(-1, 0));
        c.no("unpin(33, 0)", x.unpin(33, 0));
        c.no("unpin(1, -1)", x.unpin(1, -1));
        c.no("unpin(1, 96)", x.unpin(1, 96));
        c.yes("unpin", x.unpin(1, 0));
        c.no("unpin again", x.unpin(1, 0));
        c.is("block(0, 4)", x.block(0, 4), 0);
        c.is("pin anew", x.pin(1, 0), 0);
    }

    private static void come() {
        c.promise(10);
        SpansAway x = new SpansAway();
        c.is("come(7, 0)", x.come(7, 0), 0);
        c.is("come(6, 1)", x.come(6, 1), 1);
        c.line(x, 0, 3, 6, 1);
        c.line(x, 1, 3, 7, 0);
        c.is("free", x.span(6, 2), 32);
        c.is("come(6, 1), on", x.come(6, 1), NONE);
        x.go(6);
        c.is("come(6, 1), going", x.come(6, 1), NONE);
        c.is("come(8, 0)", x.come(8, 0), NONE);
        c.is("come(-1, 0)", x.come(-1, 0), NONE);
        c.is("come(5, 3)", x.come(5, 3), NONE);
        c.is("come(5, -1)", x.come(5, -1), NONE);
        x.set(2, 66);
        c.is("by ratio, 64 of 96 is above 66 of 100", x.come(5, 2), 0);
        x.tick(5);
        c.is("span 6 is off", x.span(6, 0), 0);
        x.set(2, 24);
        c.is("by ratio, 32 of 128 is 25 of 100", x.come(2, 2), 0);
        x.set(2, 20);
        c.is("by ratio, just at it", x.come(3, 2), 1);
        x.set(2, 0);
        c.is("by ratio 0", x.come(4, 2), 0);
        c.is("again after it went", x.come(6, 1), 1);
    }

    private static void byTurns() {
        c.promise(11);
        SpansAway x = new SpansAway();
        c.is("byTurns(0)", x.byTurns(0), NONE);
        c.is("byTurns(9)", x.byTurns(9), NONE);
        c.is("byTurns(-1)", x.byTurns(-1), NONE);
        x.come(4, 0);
        c.is("byTurns(2)", x.byTurns(2), 2);
        c.line(x, 0, 3, 2, 1);
        c.line(x, 1, 3, 3, 1);
        c.is("byTurns(8)", x.byTurns(8), 3);
        c.line(x, 0, 3, 7, 0);
        c.line(x, 1, 3, 6, 1);
        c.line(x, 2, 3, 5, 1);
        c.is("byTurns(1)", x.byTurns(1), 0);

        SpansAway y = new SpansAway();
        for (int s = 2; s < 8; s += 2) {
            y.come(s, 0);
        }
        c.is("node 0 has none left", y.byTurns(2), 2);
        c.line(y, 0, 3, 5, 1);
        c.line(y, 1, 3, 3, 1);
    }

    private static void press() {
        c.promise(12);
        SpansAway x = new SpansAway();
        x.take(0, MOVABLE, 0, 1);
        x.take(0, CACHE, 0, 2);
        x.take(0, MOVABLE, 1, 3);
        x.take(1, MOVABLE, 2, 4);
        x.take(1, MOVABLE, 0, 9);
        x.take(1, MOVABLE, 0, 10);
        x.pin(3, 5);
        x.free(0);
        x.free(2);
        // free: 0, 2, 3, 10 and behind; 1 cache, 4 .. 7 block 3, 8 block 4, 9 block 5 (pinned)
        c.is("press(0)", x.press(0), 1);
        c.is("the greatest first, to the first place", x.block(4, 0), 0);
        c.is("its value", x.frame(0, 2), 9);
        c.is("the old one", x.frame(8, 0), 1);
        c.is("the old value", x.frame(8, 2), 0);
        c.is("the pinned one stays", x.block(5, 0), 9);
        c.is("the cache stays", x.block(1, 0), 1);
        c.is("no place ahead for four", x.block(3, 0), 4);
        c.is("count(10)", x.count(10), 1);
        c.is("no line of the log", x.look(13), 0);
        c.is("press again", x.press(0), 0);
        c.is("press(2), off", x.press(2), NONE);
        c.is("press(-1)", x.press(-1), NONE);
        c.is("press(8)", x.press(8), NONE);
        x.go(0);
        c.is("press(0), going", x.press(0), NONE);
    }

    private static void gather() {
        c.promise(13);
        SpansAway x = new SpansAway();
        x.take(0, MOVABLE, 0, 1);
        x.take(0, MOVABLE, 1, 2);
        x.take(0, UNMOVABLE, 0, 3);
        x.take(0, MOVABLE, 0, 4);
        x.take(1, MOVABLE, 0, 5);
        x.pin(1, 3);
        c.is("nothing better", x.gather(0), 0);
        x.come(3, 1);
        c.is("gather(0)", x.gather(0), 2);
        c.is("the first by number", x.block(0, 0), 96);
        c.is("the next", x.block(1, 0), 98);
        c.is("values", x.frame(99, 2), 3);
        c.is("unmovable stays", x.block(2, 0), 1);
        c.is("pinned stays", x.block(3, 0), 4);
        c.is("another task's stays", x.block(4, 0), 5);
        c.is("count(10)", x.count(10), 2);
        x.come(2, 1);
        x.go(3);
        c.is("not from a span that is going", x.gather(0), 0);
        x.go(2);
        c.is("not to a span that is going", x.gather(1), 0);
        c.is("gather(-1)", x.gather(-1), NONE);
        c.is("gather(6)", x.gather(6), NONE);
    }

    private static void go() {
        c.promise(14);
        SpansAway x = new SpansAway();
        c.no("go(-1)", x.go(-1));
        c.no("go(8)", x.go(8));
        c.no("go(2), off", x.go(2));
        c.yes("go(1)", x.go(1));
        c.line(x, 0, 0, 1, 1);
        c.no("go(1) again", x.go(1));
        c.no("go(0), no other of zone NORMAL is on", x.go(0));
        x.come(2, 1);
        c.yes("go(2), 0 is on", x.go(2));
        c.no("go(0), still none", x.go(0));
        x.come(4, 0);
        c.yes("go(0)", x.go(0));
        c.is("look(12)", x.look(12), 7);
        x.tick(1);
        c.is("a part of each", x.look(8), 24);
        x.tick(3);
        c.is("moving", x.span(0, 0), 3);
        c.is("pass", x.span(0, 7), 1);
        x.tick(1);
        c.is("off", x.look(12), 0);
        c.is("on", x.look(6), 1);
        c.line(x, 0, 1, 2, 1);
        c.line(x, 2, 1, 0, 1);
        c.is("count(6)", x.count(6), 3);

        SpansAway y = new SpansAway();
        y.take(0, MOVABLE, 3, 0);
        y.take(0, MOVABLE, 3, 0);
        y.take(0, UNMOVABLE, 0, 0);
        y.go(0);
        y.tick(2);
        c.is("two parts", y.span(0, 6), 2);
        c.is("an unmovable block in the third", y.tick(1), 3);
        c.is("on again", y.span(0, 0), 1);
        c.is("why", y.span(0, 10), 0);
        c.is("no part shut", y.span(0, 6), 0);
        c.is("free", y.span(0, 2), 15);
        c.line(y, 0, 2, 0, 0);
        c.is("count(7)", y.count(7), 1);
        c.is("count(9)", y.count(9), 0);
    }

    private static void goMovesAndPauses() {
        c.promise(14);
        SpansAway x = new SpansAway();
        x.take(0, MOVABLE, 0, 1);
        x.take(0, CACHE, 0, 2);
        x.take(0, MOVABLE, 0, 3);
        x.pin(5, 0);
        x.set(1, 2);
        x.set(3, 3);
        x.go(0);
        x.tick(5);
        c.is("the cache is dropped", x.count(5), 1);
        c.is("one has arrived", x.block(2, 0), 32);
        c.line(x, 0, 4, 2, 32);
        c.line(x, 1, 6, 1, 1);
        c.is("the pinned one is passed over", x.block(0, 0), 0);
        c.is("pass", x.span(0, 7), 2);
        c.is("pause", x.span(0, 8), 3);
        x.tick(3);
        c.is("pause", x.span(0, 8), 0);
        c.is("the pass has not begun", x.count(9), 1);
        x.tick(1);
        c.is("failed", x.span(0, 0), 1);
        c.is("why", x.span(0, 10), 1);
        c.is("count(9)", x.count(9), 2);
        c.line(x, 0, 2, 0, 1);
        c.is("tick of the line", x.log(0, 0), 9);
        x.go(0);
        x.tick(5);
        x.unpin(5, 0);
        x.tick(4);
        c.is("off in the second pass", x.span(0, 0), 0);
        c.line(x, 0, 1, 0, 2);
        c.is("why it failed last stays", x.span(0, 10), 1);
        c.is("zone", x.span(0, 1), NONE);

        SpansAway y = new SpansAway();
        y.take(0, MOVABLE, 2, 1);
        y.home(1, 1);
        for (int b = 0; b < 31; b++) {
            y.take(1, UNMOVABLE, 0, 0);
        }
        y.go(0);
        y.tick(5);
        c.is("split twice, then once more behind", y.count(4), 3);
        c.is("the first has gone", y.block(0, 0), 63);
        c.is("its order", y.block(0, 1), 0);
        c.is("its value", y.frame(63, 2), 1);
        c.line(y, 0, 5, 32, 34);
        c.line(y, 1, 4, 0, 63);
        c.line(y, 2, 5, 0, 33);
        c.line(y, 3, 5, 0, 32);
        c.is("used as it was", y.block(34, 7), 1);
        c.is("the new one's place", y.block(34, 0), 3);
        c.is("the new one's owner", y.block(34, 3), 0);
        y.set(1, 1);
        y.tick(3);
        c.is("failed for want of a place", y.span(0, 10), 2);
    }

    /** A block comes into a span that begins to go meanwhile. */
    private static void goTargetGoesToo() {
        c.promise(14);
        SpansAway x = new SpansAway();
        x.come(2, 0);
        x.set(0, 1);
        x.set(1, 1);
        x.take(0, MOVABLE, 4, 100);
        x.go(0);
        x.tick(5);
        c.is("on its way to 2", x.block(0, 5), 64);
        x.go(2);
        x.tick(4);
        c.is("held frames are not apart", x.span(2, 5), 16);
        c.is("the others are", x.span(2, 3), 16);
        x.tick(1);
        c.is("held: it fails", x.span(2, 0), 1);
        c.is("without a block", x.span(2, 10), 2);
        x.go(2);
        x.tick(4);
        c.is("shut anew", x.span(2, 6), 4);
        x.giveUp(0);
        c.is("held frames in shut parts are apart", x.span(2, 3), 32);
        c.is("its values stay", x.frame(15, 2), 115);
        c.is("where it was", x.block(0, 0), 0);
        x.tick(1);
        c.is("off", x.span(2, 0), 0);
    }

    private static void giveUp() {
        c.promise(15);
        SpansAway x = onItsWay();
        c.no("giveUp(1), on", x.giveUp(1));
        c.no("giveUp(2), off", x.giveUp(2));
        c.no("giveUp(-1)", x.giveUp(-1));
        c.no("giveUp(8)", x.giveUp(8));
        x.write(3, 0, 1, 70);
        x.pin(2, 0);
        c.yes("giveUp(0)", x.giveUp(0));
        c.is("on", x.span(0, 0), 1);
        c.is("why", x.span(0, 10), 3);
        c.is("pass", x.span(0, 7), 0);
        c.is("nothing on its way", x.span(0, 9), NONE);
        c.is("where it was", x.block(0, 0), 0);
        c.is("not on its way", x.block(0, 5), NONE);
        c.is("nothing copied", x.block(0, 6), 0);
        c.is("what was held is free", x.frame(32, 0), 1);
        c.is("value 0", x.frame(32, 2), 0);
        c.is("for none", x.frame(32, 1), NONE);
        c.is("the line has done it", x.frame(1, 2), 70);
        c.is("the line has done it", x.block(0, 4), 4);
        c.line(x, 0, 2, 0, 3);
        c.line(x, 1, 8, 2, 0);
        c.line(x, 2, 8, 3, 0);
        c.is("look(8)", x.look(8), 0);
        c.is("count(7)", x.count(7), 1);
        c.is("count(3)", x.count(3), 1);
        c.no("giveUp(0) again", x.giveUp(0));
        c.is("tick", x.tick(1), 6);
        c.yes("it may go again", x.go(0));
        c.yes("giveUp(0), shutting", x.giveUp(0));
    }

    private static void tick() {
        c.promise(16);
        SpansAway x = new SpansAway();
        c.is("tick(0)", x.tick(0), NONE);
        c.is("tick(-1)", x.tick(-1), NONE);
        c.is("tick(61)", x.tick(61), NONE);
        c.is("look(4)", x.look(4), 0);
        for (int k = 1; k <= 166; k++) {
            c.is("tick(60)", x.tick(60), 60 * k);
        }
        x.go(0);
        c.is("tick(40), above 9999", x.tick(40), NONE);
        c.is("nothing is done", x.span(0, 6), 0);
        c.is("tick(39)", x.tick(39), 9999);
        c.is("tick(1)", x.tick(1), NONE);
        c.is("look(4)", x.look(4), 9999);
        c.is("span(0, 0)", x.span(0, 0), 0);
    }

    private static void image() {
        c.promise(35);
        SpansAway x = onItsWay();
        x.read(4, 0, 1);
        x.home(2, 1);
        c.no("none yet", x.image(false));
        c.yes("taken", x.image(true));
        for (int again = 0; again < 2; again++) {
            int lines = x.look(13);
            x.tick(1);
            c.is("arrived", x.block(0, 0), 32);
            c.is("read", x.task(4, 3), 11);
            x.set(0, 9);
            x.home(2, 0);
            x.come(6, 1);
            x.take(0, MOVABLE, 4, 0);
            x.free(0);
            c.yes("gone back to", x.image(false));
            c.is("tick", x.look(4), 5);
            c.is("rate", x.look(0), 1);
            c.is("home", x.task(2, 0), 1);
            c.is("span 6", x.span(6, 0), 0);
            c.is("on its way", x.block(0, 5), 32);
            c.is("copied", x.block(0, 6), 1);
            c.is("blocks", x.look(5), 1);
            c.is("the line", x.block(0, 8), 1);
            c.is("waits", x.task(4, 2), 0);
            c.is("read before", x.task(4, 3), 0);
            c.is("lines of the log", x.look(13), lines);
            c.line(x, 0, 7, 4, 0);
            c.is("count(2)", x.count(2), 0);
            c.is("count(8)", x.count(8), 1);
            c.is("values", x.frame(32, 2), 10);
        }
        x.tick(1);
        c.yes("taken anew", x.image(true));
        x.tick(9);
        c.yes("gone back to", x.image(false));
        c.is("the later one", x.look(4), 6);
    }
}
