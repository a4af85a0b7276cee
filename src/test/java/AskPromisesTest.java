/** Promises 17 to 34 and 36: the calls that only tell. Answers are worked out by hand from the document. */
public final class AskPromisesTest {
    private static final int NONE = SpansAway.NONE;
    private static final int MOVABLE = 0;
    private static final int UNMOVABLE = 1;
    private static final int CACHE = 2;
    private static final int[] FAR = {Integer.MIN_VALUE, -2, 1000, Integer.MAX_VALUE};
    private static final Check c = new Check("AskPromisesTest");

    public static void main(String[] args) {
        frame();
        block();
        span();
        task();
        zone();
        loose();
        place();
        hole();
        keeps();
        holders();
        pressed();
        at();
        movable();
        would();
        wouldFailsAndOthersGoOn();
        easiest();
        givenBack();
        log();
        count();
        look();
        c.end();
    }

    /** Block 0 (order 2, values 10 ..) is on its way from 0 to 32, three of four copied, at tick 5. */
    private static SpansAway onItsWay() {
        SpansAway x = new SpansAway();
        x.set(0, 3);
        x.take(4, MOVABLE, 2, 10);
        x.go(0);
        x.tick(5);
        return x;
    }

    private static void frame() {
        c.promise(17);
        SpansAway x = onItsWay();
        int[][] due = {{3, 0, 10}, {2, NONE, 0}, {4, 0, 12}, {4, 0, 0}, {1, NONE, 0}, {0, NONE, 0}};
        int[] frames = {0, 4, 34, 35, 36, 64};
        for (int k = 0; k < frames.length; k++) {
            for (int w = 0; w < 3; w++) {
                c.is("frame(" + frames[k] + ", " + w + ")", x.frame(frames[k], w), due[k][w]);
            }
        }
        c.is("frame(-1, 0)", x.frame(-1, 0), NONE);
        c.is("frame(256, 0)", x.frame(256, 0), NONE);
        c.is("frame(0, -1)", x.frame(0, -1), NONE);
        c.is("frame(0, 3)", x.frame(0, 3), NONE);
        for (int far : FAR) {
            c.is("frame far out", x.frame(far, 0), NONE);
            c.is("frame far out", x.frame(0, far), NONE);
        }
        SpansAway y = new SpansAway();
        y.take(0, CACHE, 0, NONE);
        c.is("VALUE may be NONE", y.frame(0, 2), NONE);
        c.is("taken", y.frame(0, 0), 3);
    }

    private static void block() {
        c.promise(18);
        SpansAway x = onItsWay();
        x.pin(1, 0);
        x.read(2, 0, 0);
        x.take(3, CACHE, 0, 0);
        x.pin(5, 1);
        x.pin(0, 1);
        int[] way = {0, 2, MOVABLE, 4, 0, 32, 3, 1, 2};
        int[] stays = {36, 0, CACHE, 3, 33, NONE, 0, 2, 0};
        for (int w = 0; w < 9; w++) {
            c.is("block(0, " + w + ")", x.block(0, w), way[w]);
            c.is("block(1, " + w + ")", x.block(1, w), stays[w]);
        }
        c.is("block(0, 9)", x.block(0, 9), NONE);
        c.is("block(0, -1)", x.block(0, -1), NONE);
        c.is("block(2, 0)", x.block(2, 0), NONE);
        c.is("block(-1, 0)", x.block(-1, 0), NONE);
        c.is("block(96, 0)", x.block(96, 0), NONE);
        for (int far : FAR) {
            c.is("block far out", x.block(far, 0), NONE);
            c.is("block far out", x.block(0, far), NONE);
        }
    }

    private static void span() {
        c.promise(19);
        SpansAway x = onItsWay();
        x.come(3, 1);
        int[] moving = {3, 0, 0, 28, 4, 0, 4, 1, 0, 0, NONE};
        int[] target = {1, 0, 28, 0, 0, 4, 0, 0, 0, NONE, NONE};
        int[] came = {1, 1, 32, 0, 0, 0, 0, 0, 0, NONE, NONE};
        for (int w = 0; w < 11; w++) {
            c.is("span(0, " + w + ")", x.span(0, w), moving[w]);
            c.is("span(1, " + w + ")", x.span(1, w), target[w]);
            c.is("span(3, " + w + ")", x.span(3, w), came[w]);
        }
        c.is("span(0, 11)", x.span(0, 11), NONE);
        c.is("span(0, -1)", x.span(0, -1), NONE);
        c.is("span(-1, 0)", x.span(-1, 0), NONE);
        c.is("span(8, 0)", x.span(8, 0), NONE);
        for (int far : FAR) {
            c.is("span far out", x.span(far, 0), NONE);
            c.is("span far out", x.span(0, far), NONE);
        }
    }

    private static void task() {
        c.promise(20);
        SpansAway x = onItsWay();
        x.home(4, 1);
        x.take(4, UNMOVABLE, 0, NONE);
        x.take(4, UNMOVABLE, 0, 0);
        x.read(4, 1, 0);
        x.pin(4, 1);
        x.pin(4, 2);
        x.pin(2, 0);
        int[] owner = {1, 0, NONE, NONE, 3, 2};
        int[] waits = {0, 1, 0, 0, 0, 0};
        for (int w = 0; w < 6; w++) {
            c.is("task(4, " + w + ")", x.task(4, w), owner[w]);
            c.is("task(2, " + w + ")", x.task(2, w), waits[w]);
        }
        c.is("task(0, 6)", x.task(0, 6), NONE);
        c.is("task(0, -1)", x.task(0, -1), NONE);
        c.is("task(6, 0)", x.task(6, 0), NONE);
        c.is("task(-1, 0)", x.task(-1, 0), NONE);
        for (int far : FAR) {
            c.is("task far out", x.task(far, 0), NONE);
            c.is("task far out", x.task(0, far), NONE);
        }
    }

    private static void zone() {
        c.promise(21);
        SpansAway x = new SpansAway();
        x.come(2, 1);
        x.take(0, MOVABLE, 4, 0);
        x.take(0, MOVABLE, 2, 0);
        c.is("zone(1, 0)", x.zone(1, 0), 1);
        c.is("zone(1, 1)", x.zone(1, 1), 12);
        c.is("zone(1, 2)", x.zone(1, 2), 3);
        c.is("zone(0, 0)", x.zone(0, 0), 2);
        c.is("zone(0, 2)", x.zone(0, 2), 5);
        x.go(2);
        x.go(1);
        x.tick(3);
        c.is("of spans that are going, too", x.zone(1, 1), 8);
        c.is("of spans that are going, too", x.zone(0, 1), 40);
        c.is("spans that are going", x.zone(0, 0), 2);
        x.tick(1);
        c.is("nothing free", x.zone(1, 2), NONE);
        c.is("zone(2, 0)", x.zone(2, 0), NONE);
        c.is("zone(-1, 0)", x.zone(-1, 0), NONE);
        c.is("zone(0, 3)", x.zone(0, 3), NONE);
        c.is("zone(0, -1)", x.zone(0, -1), NONE);
    }

    private static void loose() {
        c.promise(22);
        SpansAway x = new SpansAway();
        x.take(0, MOVABLE, 0, 0);
        x.take(0, MOVABLE, 0, 0);
        x.take(0, MOVABLE, 0, 0);
        x.free(1);
        // free of span 0: 1, 3, 4 .. 31
        int[] due = {0, 2, 2, 6, 14, 30};
        for (int order = 0; order <= 5; order++) {
            c.is("loose(0, " + order + ")", x.loose(0, order), due[order]);
            c.is("loose(1, " + order + ")", x.loose(1, order), 0);
        }
        x.go(0);
        x.tick(1);
        c.is("of a span that is going, too", x.loose(0, 4), 8);
        c.is("loose(0, 6)", x.loose(0, 6), NONE);
        c.is("loose(0, -1)", x.loose(0, -1), NONE);
        c.is("loose(2, 0)", x.loose(2, 0), NONE);
        c.is("loose(-1, 0)", x.loose(-1, 0), NONE);
        c.is("loose(0, 33)", x.loose(0, 33), NONE);
    }

    private static void place() {
        c.promise(23);
        SpansAway x = new SpansAway();
        x.take(0, UNMOVABLE, 0, 0);
        x.come(5, 1);
        c.is("movable", x.place(0, MOVABLE, 0), 160);
        c.is("unmovable, least hole", x.place(0, UNMOVABLE, 0), 1);
        c.is("cache, order 2", x.place(0, CACHE, 2), 4);
        c.is("order 4", x.place(0, CACHE, 4), 16);
        x.home(1, 1);
        c.is("at home", x.place(1, CACHE, 0), 32);
        x.go(0);
        x.tick(1);
        c.is("it failed: as before", x.place(0, UNMOVABLE, 0), 1);
        x.go(1);
        x.tick(3);
        c.is("in a span that is going, too", x.place(1, CACHE, 0), 56);
        c.is("order 4 away from home", x.place(1, CACHE, 4), 16);
        c.is("nothing came", x.look(5), 1);
        int[][] wrong = {{-1, 0, 0}, {6, 0, 0}, {0, -1, 0}, {0, 3, 0}, {0, 0, -1}, {0, 0, 5}};
        for (int[] w : wrong) {
            c.is("place can't be", x.place(w[0], w[1], w[2]), NONE);
        }
        SpansAway y = new SpansAway();
        for (int b = 0; b < 4; b++) {
            y.take(0, CACHE, 4, 0);
        }
        c.is("nothing is dropped", y.place(0, MOVABLE, 0), NONE);
        c.is("nothing is dropped", y.count(5), 0);
    }

    private static void hole() {
        c.promise(24);
        SpansAway x = new SpansAway();
        c.is("hole(31)", x.hole(31), 5);
        x.take(0, MOVABLE, 0, 0);
        int[][] due = {{0, NONE}, {1, 0}, {2, 1}, {3, 1}, {4, 2}, {7, 2}, {8, 3}, {15, 3}, {16, 4}, {31, 4}, {32, 5}, {64, NONE}};
        for (int[] d : due) {
            c.is("hole(" + d[0] + ")", x.hole(d[0]), d[1]);
        }
        x.go(0);
        x.tick(1);
        c.is("apart", x.hole(4), NONE);
        c.is("beside parts that are shut", x.hole(8), 3);
        c.is("hole(-1)", x.hole(-1), NONE);
        c.is("hole(256)", x.hole(256), NONE);
        for (int far : FAR) {
            c.is("hole far out", x.hole(far), NONE);
        }
    }

    /** Span 0: 0 .. 15 movable (0), 16 unmovable, pinned (1), 17 cache (2), 18 cache, pinned (3), 20 .. 23 movable (4). */
    private static SpansAway kept() {
        SpansAway x = new SpansAway();
        x.take(0, MOVABLE, 4, 0);
        x.take(1, UNMOVABLE, 0, 0);
        x.take(2, CACHE, 0, 0);
        x.take(3, CACHE, 0, 0);
        x.take(4, MOVABLE, 2, 0);
        x.pin(5, 1);
        x.pin(5, 3);
        x.pin(0, 3);
        return x;
    }

    private static void keeps() {
        c.promise(25);
        SpansAway x = kept();
        c.is("how many", x.keeps(0, NONE, 0), 2);
        int[][] due = {{1, 0, 1, 32}, {3, 1, 3, 33}};
        for (int i = 0; i < 2; i++) {
            for (int w = 0; w < 4; w++) {
                c.is("keeps(0, " + i + ", " + w + ")", x.keeps(0, i, w), due[i][w]);
            }
        }
        x.home(5, 1);
        x.take(5, UNMOVABLE, 3, 0);
        x.take(5, UNMOVABLE, 4, 0);
        c.is("span 1 has 8 left", x.span(1, 2), 8);
        c.is("how many, no place of order 4", x.keeps(0, NONE, 3), 3);
        c.is("the first by frame", x.keeps(0, 0, 0), 0);
        c.is("why", x.keeps(0, 0, 1), 2);
        x.come(3, 1);
        c.is("a place in zone MOVABLE", x.keeps(0, NONE, 0), 2);
        x.go(3);
        c.is("not in one that is going", x.keeps(0, NONE, 0), 3);
        c.is("span 1", x.keeps(1, NONE, 0), 2);
        c.is("span 2, off", x.keeps(2, NONE, 0), 0);
        c.is("span 2, off", x.keeps(2, 0, 0), NONE);
        c.is("keeps(0, 3, 0)", x.keeps(0, 3, 0), NONE);
        c.is("keeps(0, -2, 0)", x.keeps(0, -2, 0), NONE);
        c.is("keeps(0, 0, 4)", x.keeps(0, 0, 4), NONE);
        c.is("keeps(0, 0, -1)", x.keeps(0, 0, -1), NONE);
        c.is("keeps(8, 0, 0)", x.keeps(8, 0, 0), NONE);
        c.is("keeps(-1, -1, 0)", x.keeps(-1, NONE, 0), NONE);
        c.is("keeps(0, MAX, 0)", x.keeps(0, Integer.MAX_VALUE, 0), NONE);
    }

    private static void holders() {
        c.promise(26);
        SpansAway x = kept();
        c.is("owner of the unmovable one, and all pins", x.holders(0), 1 | 2 | 32);
        x.unpin(5, 1);
        x.unpin(5, 3);
        c.is("without 5", x.holders(0), 1 | 2);
        x.unpin(0, 3);
        c.is("owner of the unmovable one", x.holders(0), 2);
        c.is("nobody", x.holders(1), 0);
        c.is("off", x.holders(2), 0);
        c.is("holders(-1)", x.holders(-1), NONE);
        c.is("holders(8)", x.holders(8), NONE);
    }

    private static void pressed() {
        c.promise(27);
        SpansAway x = new SpansAway();
        for (int b = 0; b < 4; b++) {
            x.take(0, MOVABLE, 3, b);
        }
        c.is("full", x.pressed(0), NONE);
        x.free(0);
        x.free(2);
        c.is("before", x.hole(0), 3);
        c.is("pressed(0)", x.pressed(0), 4);
        c.is("in thought", x.block(3, 0), 24);
        c.is("in thought", x.count(10), 0);
        x.pin(0, 3);
        c.is("with a pin", x.pressed(0), 3);
        c.is("empty", x.pressed(1), 5);
        c.is("off", x.pressed(2), NONE);
        x.go(1);
        c.is("going", x.pressed(1), NONE);
        c.is("pressed(-1)", x.pressed(-1), NONE);
        c.is("pressed(8)", x.pressed(8), NONE);
    }

    private static void at() {
        c.promise(28);
        SpansAway x = onItsWay();
        c.is("taken, where it was", x.at(4, 0), 4);
        c.is("held does not count", x.at(4, 1), 0);
        x.tick(1);
        c.is("arrived", x.at(4, 0), 0);
        c.is("arrived", x.at(4, 1), 4);
        x.take(4, UNMOVABLE, 3, 0);
        c.is("with another", x.at(4, 1), 12);
        c.is("another task", x.at(3, 1), 0);
        c.is("at(-1, 0)", x.at(-1, 0), NONE);
        c.is("at(6, 0)", x.at(6, 0), NONE);
        c.is("at(0, -1)", x.at(0, -1), NONE);
        c.is("at(0, 2)", x.at(0, 2), NONE);
    }

    private static void movable() {
        c.promise(29);
        SpansAway x = new SpansAway();
        c.is("150 of 100 of 2", x.movable(), 3);
        x.set(2, 400);
        c.is("no more than are off", x.movable(), 6);
        x.set(2, 49);
        c.is("just below 1 of 2", x.movable(), 0);
        x.set(2, 50);
        c.is("1 of 2", x.movable(), 1);
        x.come(2, 1);
        c.is("it is there", x.movable(), 0);
        x.set(2, 0);
        c.is("ratio 0", x.movable(), 0);
        c.is("in thought", x.look(6), 3);
    }

    private static void would() {
        c.promise(30);
        SpansAway x = new SpansAway();
        x.take(0, MOVABLE, 3, 0);
        x.take(0, CACHE, 0, 0);
        x.home(1, 1);
        x.take(1, UNMOVABLE, 4, 0);
        x.take(1, UNMOVABLE, 3, 0);
        x.take(1, UNMOVABLE, 0, 0);
        // span 1 has 57 and 58 .. 63 free: 8 frames of span 0 are split until they fit, one stays
        int[] due = {0, 0, 7, 0, 1};
        c.is("off", x.would(0, 0), due[0]);
        c.is("copied", x.would(0, 2), due[2]);
        c.is("dropped", x.would(0, 4), due[4]);
        c.is("nothing of it stays", x.span(0, 0), 1);
        c.is("nothing of it stays", x.look(13), 0);
        c.is("nothing of it stays", x.look(4), 0);
        c.is("nothing of it stays", x.count(3), 0);
        c.is("nothing of it stays", x.look(5), 5);
        x.come(2, 0);
        c.is("off", x.would(0, 0), 1);
        c.is("ticks: 4, then 8 frames by 4", x.would(0, 1), 6);
        c.is("copied", x.would(0, 2), 8);
        c.is("split", x.would(0, 3), 0);
        c.is("dropped", x.would(0, 4), 1);
        c.is("fails in the first part", x.would(1, 1), 1);
        c.is("fails in the first part", x.would(1, 0), 0);
        c.is("would(0, 5)", x.would(0, 5), NONE);
        c.is("would(0, -1)", x.would(0, -1), NONE);
        c.is("would(3, 0), off", x.would(3, 0), NONE);
        c.is("would(8, 0)", x.would(8, 0), NONE);
        c.is("would(-1, 0)", x.would(-1, 0), NONE);
        x.go(2);
        c.is("going already", x.would(2, 0), NONE);
        x.go(1);
        c.is("no other of zone NORMAL is on", x.would(0, 0), NONE);
    }

    private static void wouldFailsAndOthersGoOn() {
        c.promise(30);
        SpansAway x = new SpansAway();
        x.take(0, MOVABLE, 2, 0);
        x.pin(0, 0);
        c.is("3 passes with 2 pauses of 2: fails", x.would(0, 1), 4 + 1 + 2 + 1 + 2 + 1);
        c.is("not off", x.would(0, 0), 0);
        x.set(1, 9);
        x.set(3, 20);
        c.is("9 passes with 8 pauses of 20", x.would(0, 1), 4 + 9 + 8 * 20);

        SpansAway y = new SpansAway();
        y.come(2, 0);
        y.home(1, 1);
        y.take(0, MOVABLE, 3, 0);
        y.take(1, MOVABLE, 3, 0);
        y.go(0);
        y.tick(2);
        c.is("values of all spans", y.would(1, 2), 16);
        c.is("ticks", y.would(1, 1), 6);
        c.is("span 0 is as it was", y.span(0, 6), 2);
    }

    private static void easiest() {
        c.promise(31);
        SpansAway x = new SpansAway();
        c.is("both alike: the least", x.easiest(0), 0);
        c.is("ticks", x.easiest(1), 5);
        x.take(0, MOVABLE, 3, 0);
        c.is("the one without a block", x.easiest(0), 1);
        x.home(1, 1);
        x.take(1, UNMOVABLE, 0, 0);
        c.is("the other would fail", x.easiest(0), 0);
        c.is("ticks", x.easiest(1), 6);
        x.take(0, UNMOVABLE, 0, 0);
        c.is("none", x.easiest(0), NONE);
        c.is("none", x.easiest(1), NONE);
        x.come(2, 1);
        c.is("another", x.easiest(0), 2);
        c.is("easiest(2)", x.easiest(2), NONE);
        c.is("easiest(-1)", x.easiest(-1), NONE);
        c.is("nothing of it stays", x.look(12), 0);
    }

    private static void givenBack() {
        c.promise(32);
        SpansAway x = new SpansAway();
        c.is("one of two", x.givenBack(), 1);
        x.byTurns(6);
        c.is("all but one", x.givenBack(), 7);
        for (int b = 0; b < 5; b++) {
            x.take(0, MOVABLE, 4, 0);
        }
        c.is("80 frames need three", x.givenBack(), 5);
        x.pin(3, 0);
        c.is("a pin beside them", x.givenBack(), 5);
        x.take(2, UNMOVABLE, 0, 0);
        c.is("span 0 stays, too", x.givenBack(), 5);
        c.is("nothing of it stays", x.look(6), 8);
        c.is("nothing of it stays", x.count(3), 0);
    }

    private static void log() {
        c.promise(33);
        SpansAway x = new SpansAway();
        c.is("empty", x.log(0, 0), NONE);
        x.tick(7);
        x.come(2, 1);
        c.is("tick", x.log(0, 0), 7);
        c.line(x, 0, 3, 2, 1);
        c.is("log(1, 0)", x.log(1, 0), NONE);
        c.is("log(0, 4)", x.log(0, 4), NONE);
        c.is("log(0, -1)", x.log(0, -1), NONE);
        c.is("log(-1, 0)", x.log(-1, 0), NONE);
        for (int k = 0; k < 30; k++) {
            x.go(k % 2);
            x.giveUp(k % 2);
        }
        c.is("all that came", x.look(13), 61);
        c.line(x, 0, 2, 1, 3);
        c.line(x, 1, 0, 1, 1);
        c.line(x, 59, 0, 0, 0);
        c.is("log(60, 0)", x.log(60, 0), NONE);
        c.is("log(MAX, 0)", x.log(Integer.MAX_VALUE, 0), NONE);
        c.is("log(MIN, 0)", x.log(Integer.MIN_VALUE, 0), NONE);
        x.go(0);
        c.line(x, 0, 0, 0, 0);
        c.line(x, 59, 2, 0, 3);
    }

    private static void count() {
        c.promise(34);
        SpansAway x = onItsWay();
        x.take(1, CACHE, 4, 0);
        x.take(1, CACHE, 4, 0);
        x.take(1, CACHE, 3, 0);
        x.take(1, UNMOVABLE, 3, 0);
        x.read(5, 0, 0);
        x.tick(1);
        x.take(1, UNMOVABLE, 4, 0);
        x.come(2, 0);
        x.gather(4);
        x.go(2);
        x.giveUp(2);
        // the second cache drops the first, the unmovable block the second, and the last take the third in vain
        int[] due = {5, 1, 1, 4, 0, 3, 1, 1, 1, 1, 1};
        for (int w = 0; w < due.length; w++) {
            c.is("count(" + w + ")", x.count(w), due[w]);
        }
        c.is("count(11)", x.count(11), NONE);
        c.is("count(-1)", x.count(-1), NONE);
        for (int far : FAR) {
            c.is("count far out", x.count(far), NONE);
        }
    }

    private static void look() {
        c.promise(36);
        SpansAway x = onItsWay();
        x.set(1, 5);
        x.set(2, 77);
        x.set(3, 11);
        x.pin(0, 0);
        x.pin(3, 0);
        x.come(2, 1);
        x.come(3, 1);
        x.come(4, 0);
        x.go(3);
        int[] due = {3, 5, 77, 11, 5, 1, 5, 124, 28, 4, 4, 9, 9, 7, 66};
        for (int w = 0; w < due.length; w++) {
            c.is("look(" + w + ")", x.look(w), due[w]);
        }
        c.is("look(15)", x.look(15), NONE);
        c.is("look(-1)", x.look(-1), NONE);
        for (int far : FAR) {
            c.is("look far out", x.look(far), NONE);
        }
    }
}
