/** A case for each edge that piece 2 of the document names: to take, touch, press, gather, come on. */
final class EdgesOfTaking {
    private static final String PIECE = "==== 2.";
    private static final int NONE = SpansAway.NONE;
    private static final int MOVABLE = 0;
    private static final int UNMOVABLE = 1;
    private static final int CACHE = 2;

    private final Check c;
    private final Document d;

    EdgesOfTaking(Check c, Document d) {
        this.c = c;
        this.d = d;
    }

    void all() {
        takeWhileGoing();
        valuesWrap();
        dropNone();
        dropNotPinned();
        dropLeastUsed();
        dropTheFirst();
        dropInVain();
        dropInShutPart();
        dropNearlyAll();
        dropWhileGoing();
        noNumber();
        numberOfADropped();
        goesFromTwoParts();
        touchAnyBlock();
        touchWaiting();
        fullLine();
        fullLineAgain();
        twoLines();
        lineOfGivenUp();
        pinInLine();
        atOnce();
        pressEmptyAndFull();
        pressPassesOver();
        pressNotOverHeld();
        pressGreatestFirst();
        pressWithinSpan();
        gatherNone();
        gatherLessRank();
        gatherByNumber();
        gatherOnlyOn();
        gatherPassesOver();
        gatherFull();
        comeByRatio();
        comeFree();
        turnsAlike();
        turnsOneNodeFull();
    }

    /** Span 1 is full of blocks that stay: two of order 4, numbers 0 and 1. */
    private static SpansAway oneFull() {
        SpansAway x = new SpansAway();
        x.home(5, 1);
        x.take(5, UNMOVABLE, 4, 0);
        x.take(5, UNMOVABLE, 4, 0);
        return x;
    }

    /** Block 0 (order 1, values 10, 11) is on its way from 0 to 32, one value copied, at tick 5. */
    private static SpansAway onItsWay() {
        SpansAway x = new SpansAway();
        x.set(0, 1);
        x.take(0, MOVABLE, 1, 10);
        x.go(0);
        x.tick(5);
        return x;
    }

    private void takeWhileGoing() {
        d.says(PIECE, "also in a SPAN that is GOING");
        SpansAway x = new SpansAway();
        x.go(0);
        c.is("no part is shut", x.block(x.take(0, CACHE, 0, 0), 0), 0);
        x.tick(3);
        c.is("the fourth part is open", x.block(x.take(0, CACHE, 2, 0), 0), 24);
        c.is("the rest of it", x.block(x.take(0, CACHE, 2, 0), 0), 28);
        c.is("full", x.block(x.take(0, CACHE, 0, 0), 0), 32);
        x.tick(1);
        c.is("moving", x.span(0, 0), 3);
        c.is("all is shut", x.block(x.take(0, CACHE, 0, 0), 0), 33);
    }

    private void valuesWrap() {
        d.says(PIECE, "VALUES of its FRAMES are the one told, and 1 more each");
        SpansAway x = new SpansAway();
        x.take(0, MOVABLE, 1, Integer.MAX_VALUE);
        c.is("the greatest", x.frame(0, 2), Integer.MAX_VALUE);
        c.is("1 more", x.frame(1, 2), Integer.MIN_VALUE);
        x.take(0, MOVABLE, 1, -1);
        c.is("-1", x.frame(2, 2), -1);
        c.is("1 more", x.frame(3, 2), 0);
        x.take(0, MOVABLE, 0, Integer.MIN_VALUE);
        c.is("the least", x.frame(4, 2), Integer.MIN_VALUE);
        c.is("behind it", x.frame(5, 2), 0);
        x.take(0, MOVABLE, 4, 100);
        c.is("the first of 16", x.frame(16, 2), 100);
        c.is("the last of 16", x.frame(31, 2), 115);
    }

    private void dropNone() {
        d.says(PIECE, "it has none");
        SpansAway x = oneFull();
        x.take(0, UNMOVABLE, 4, 0);
        x.take(0, MOVABLE, 4, 0);
        c.is("full, no cache at all", x.take(0, MOVABLE, 0, 0), NONE);
        c.is("dropped", x.count(5), 0);
        c.is("had none", x.count(1), 1);
        c.is("no line of the log", x.look(13), 0);
    }

    private void dropNotPinned() {
        d.says(PIECE, "CACHES that are not PINNED");
        SpansAway x = new SpansAway();
        for (int b = 0; b < 4; b++) {
            x.take(0, CACHE, 4, 0);
            x.pin(b, b);
        }
        c.is("all are pinned", x.take(0, UNMOVABLE, 0, 0), NONE);
        c.is("dropped", x.count(5), 0);
        c.is("blocks", x.look(5), 4);
        x.unpin(2, 2);
        c.is("one is not", x.take(0, UNMOVABLE, 0, 0), 2);
        c.is("dropped", x.count(5), 1);
    }

    private void dropLeastUsed() {
        d.says(PIECE, "one by one, the least USED first, until there is one");
        SpansAway x = new SpansAway();
        for (int b = 0; b < 4; b++) {
            x.take(0, CACHE, 4, 0);
        }
        x.read(0, 0, 0);
        x.write(0, 1, 0, 0);
        x.pin(0, 3);
        x.unpin(0, 3);
        // used: 5, 6, 3, 4 (a pin is no use)
        c.is("the third was used least", x.take(0, MOVABLE, 0, 0), 2);
        c.line(x, 0, 6, 2, 32);
        c.is("dropped", x.count(5), 1);
        c.is("then the fourth", x.take(0, MOVABLE, 4, 0), 3);
        c.line(x, 0, 6, 3, 48);
        c.is("dropped", x.count(5), 2);
        c.is("there is a place: nothing is dropped", x.take(0, MOVABLE, 0, 0), 4);
        c.is("dropped", x.count(5), 2);
    }

    private void dropTheFirst() {
        d.says(PIECE, "DROPPED one by one");
        SpansAway x = new SpansAway();
        x.take(0, CACHE, 4, 0);
        for (int b = 1; b < 4; b++) {
            x.take(0, UNMOVABLE, 4, 0);
        }
        c.is("the only cache is block 0", x.take(0, MOVABLE, 4, 0), 0);
        c.line(x, 0, 6, 0, 0);
        c.is("its kind", x.block(0, 2), MOVABLE);
    }

    /** Caches lie between unmovable blocks of 8: none of them gives a place of 16. */
    private void dropInVain() {
        d.says(PIECE, "there is none in the end");
        d.says(PIECE, "(what was DROPPED is gone)");
        SpansAway x = new SpansAway();
        for (int b = 0; b < 8; b++) {
            x.take(0, b % 2 == 0 ? UNMOVABLE : CACHE, 3, 0);
        }
        c.is("full", x.look(7), 0);
        c.is("none in the end", x.take(0, MOVABLE, 4, 0), NONE);
        c.is("all caches are gone", x.count(5), 4);
        c.is("free", x.look(7), 32);
        c.is("blocks", x.look(5), 4);
        c.line(x, 0, 6, 7, 56);
        c.line(x, 3, 6, 1, 8);
        c.is("had none", x.count(1), 1);
        c.is("came", x.count(0), 8);
        c.is("none again, nothing to drop", x.take(0, MOVABLE, 4, 0), NONE);
        c.is("dropped", x.count(5), 4);
    }

    private void dropInShutPart() {
        d.says(PIECE, "until there is one");
        SpansAway x = oneFull();
        for (int b = 2; b < 6; b++) {
            x.take(0, CACHE, 3, 0);
        }
        x.go(0);
        x.tick(1);
        c.is("the first gives no place, the second does", x.block(x.take(0, MOVABLE, 3, 0), 0), 8);
        c.is("dropped", x.count(5), 2);
        c.is("in the shut part", x.frame(0, 0), 2);
        c.is("it has the number of the first", x.block(2, 2), MOVABLE);
        x.giveUp(0);
        c.is("open again", x.frame(0, 0), 1);
    }

    /**
     * 96 caches of one frame: 64 in spans 0 and 2, all shut, and 32 in span 1, where one in each half was read last. As
     * many as ever can be are dropped for a place of 16.
     */
    private void dropNearlyAll() {
        d.says(PIECE, "one by one, the least USED first, until there is one");
        SpansAway x = new SpansAway();
        x.come(2, 0);
        for (int b = 0; b < 96; b++) {
            x.take(0, CACHE, 0, b);
        }
        c.is("the last lies in span 1", x.block(95, 0), 63);
        x.go(0);
        x.go(2);
        x.tick(4);
        x.read(0, 79, 0);
        x.read(0, 95, 0);
        c.is("the first half is free at last", x.block(x.take(1, UNMOVABLE, 4, 0), 0), 32);
        c.is("dropped", x.count(5), 95);
        c.line(x, 0, 6, 79, 47);
        c.is("the one that was read last stays", x.block(95, 0), 63);
        c.is("blocks", x.look(5), 2);
        c.is("apart", x.look(8), 64);
    }

    private void dropWhileGoing() {
        d.says(PIECE, "not on their way, are DROPPED");
        SpansAway x = oneFull();
        x.set(0, 1);
        x.take(0, MOVABLE, 4, 0);
        x.take(0, CACHE, 4, 0);
        x.come(3, 1);
        x.take(5, MOVABLE, 4, 0);
        x.take(5, MOVABLE, 3, 0);
        x.come(5, 1);
        x.go(3);
        x.tick(5);
        c.is("a block is on its way", x.block(4, 5), 160);
        c.is("what it is held for is no place", x.place(5, MOVABLE, 4), 176);
        x.take(5, MOVABLE, 4, 0);
        c.is("only the cache is dropped", x.take(0, MOVABLE, 4, 0), 3);
        c.is("dropped", x.count(5), 1);
        c.is("nothing else can be", x.take(0, MOVABLE, 4, 0), NONE);
        c.is("still on its way", x.block(4, 5), 160);
    }

    private void noNumber() {
        d.says(PIECE, "or no number: it has none");
        SpansAway x = new SpansAway();
        x.come(2, 0);
        x.come(4, 0);
        for (int b = 0; b < 96; b++) {
            x.take(b % 6, CACHE, 0, 0);
        }
        c.is("there is a place", x.place(0, MOVABLE, 4), 32);
        c.is("but no number", x.take(0, MOVABLE, 4, 0), NONE);
        c.is("nothing is dropped for a number", x.count(5), 0);
        c.is("had none", x.count(1), 1);
        c.is("came", x.count(0), 96);
        x.free(40);
        c.is("a number", x.take(0, MOVABLE, 4, 0), 40);
    }

    private void numberOfADropped() {
        d.says(PIECE, "there is none in the end, or no number");
        SpansAway x = new SpansAway();
        x.come(2, 0);
        for (int b = 0; b < 96; b++) {
            x.take(0, b == 70 ? CACHE : UNMOVABLE, 0, 0);
        }
        c.is("neither place nor number", x.look(7), 0);
        c.is("the cache leaves both", x.take(0, MOVABLE, 0, 0), 70);
        c.is("dropped", x.count(5), 1);
    }

    private void goesFromTwoParts() {
        d.says(PIECE, "its FRAMES are FREE, in a PART that is SHUT APART; VALUES 0");
        SpansAway x = new SpansAway();
        x.take(0, MOVABLE, 4, 1);
        x.go(0);
        x.tick(1);
        x.free(0);
        c.is("the last of the shut part", x.frame(7, 0), 2);
        c.is("the first of the open part", x.frame(8, 0), 1);
        c.is("values", x.frame(7, 2), 0);
        c.is("values", x.frame(8, 2), 0);
        c.is("nobody's", x.frame(7, 1), NONE);
        c.is("apart", x.span(0, 3), 8);
        c.is("free", x.span(0, 2), 24);
        SpansAway y = new SpansAway();
        y.take(0, CACHE, 4, 1);
        y.go(0);
        y.tick(4);
        y.free(0);
        c.is("all parts are shut", y.span(0, 3), 32);
    }

    private void touchAnyBlock() {
        d.says(PIECE, "a TASK that does not WAIT, any BLOCK");
        SpansAway x = new SpansAway();
        for (int kind = MOVABLE; kind <= CACHE; kind++) {
            x.take(kind, kind, 2, 10 * kind);
            c.is("read of another's", x.read(5, kind, 3), 0);
            c.is("its value", x.task(5, 3), 10 * kind + 3);
            c.is("write of another's", x.write(4, kind, 3, 7), 0);
            c.is("pin of another's", x.pin(3, kind), 0);
            c.is("read of a pinned one", x.read(5, kind, 3), 0);
            c.is("its value", x.task(5, 3), 7);
        }
    }

    private void touchWaiting() {
        d.says(PIECE, "a TASK that does not WAIT");
        SpansAway x = onItsWay();
        x.take(0, CACHE, 0, 5);
        x.read(2, 0, 0);
        c.is("it waits: read of one that stays", x.read(2, 1, 0), NONE);
        c.is("it waits: write", x.write(2, 1, 0, 9), NONE);
        c.is("it waits: pin", x.pin(2, 1), NONE);
        c.is("another does not", x.read(3, 1, 0), 0);
        c.is("the value stands", x.task(3, 3), 5);
        x.tick(1);
        c.is("it waits no more", x.read(2, 1, 0), 0);
    }

    private void fullLine() {
        d.says(PIECE, "the TASK WAITS (THE LINE of that BLOCK, in order)");
        d.says(PIECE, "all of THE LINE do what they wanted, in order");
        SpansAway x = onItsWay();
        c.is("empty", x.block(0, 8), 0);
        c.is("first", x.write(3, 0, 0, 70), 1);
        c.is("second", x.read(0, 0, 0), 1);
        c.is("third", x.pin(5, 0), 1);
        c.is("fourth", x.write(2, 0, 0, 71), 1);
        c.is("fifth", x.read(1, 0, 0), 1);
        c.is("sixth", x.pin(4, 0), 1);
        c.is("all are in it", x.block(0, 8), 6);
        c.is("all wait", x.look(11), 63);
        c.is("had to wait", x.count(8), 6);
        for (int t = 0; t < 6; t++) {
            c.is("nobody can read", x.read(t, 0, 0), NONE);
            c.is("for block 0", x.task(t, 2), 0);
        }
        c.is("the line is as it was", x.block(0, 8), 6);
        x.tick(1);
        c.is("it read between both writes", x.task(0, 3), 70);
        c.is("it read behind both", x.task(1, 3), 71);
        c.is("pins", x.block(0, 4), 48);
        c.is("used by four", x.block(0, 7), 5);
        c.is("empty", x.block(0, 8), 0);
        c.is("none waits", x.look(11), 0);
        int[] order = {3, 0, 5, 2, 1, 4};
        c.line(x, 7, 4, 0, 32);
        for (int k = 0; k < 6; k++) {
            c.line(x, 6 - k, 8, order[k], 0);
        }
        c.line(x, 0, 1, 0, 1);
    }

    /** All tasks wait for block 0, and as soon as it has arrived all of them for block 1. */
    private void fullLineAgain() {
        d.says(PIECE, "do what they wanted, in order");
        SpansAway x = new SpansAway();
        x.set(0, 1);
        x.take(0, MOVABLE, 1, 10);
        x.take(0, MOVABLE, 1, 20);
        x.take(0, MOVABLE, 1, 30);
        x.go(0);
        x.tick(5);
        for (int b = 0; b < 3; b++) {
            for (int k = 0; k < 6; k++) {
                int task = (k + b) % 6;
                c.is("waits", x.read(task, b, k % 2), 1);
                c.is("the line", x.block(b, 8), k + 1);
            }
            x.tick(b == 0 ? 1 : 2);
            c.is("none waits", x.look(11), 0);
            for (int k = 0; k < 6; k++) {
                int task = (k + b) % 6;
                c.is("what it read", x.task(task, 3), 10 * (b + 1) + k % 2);
                c.line(x, b == 2 ? 6 - k : 5 - k, 8, task, b);
            }
        }
        c.is("had to wait", x.count(8), 18);
        c.is("off", x.span(0, 0), 0);
    }

    /** Block 0 (order 1) leaves span 0, block 2 (order 4) leaves span 2; both come to span 1. */
    private void twoLines() {
        d.says(PIECE, "THE LINE of that BLOCK");
        SpansAway x = new SpansAway();
        x.come(2, 0);
        x.set(0, 1);
        x.take(0, MOVABLE, 1, 10);
        x.take(0, MOVABLE, 4, 0);
        x.take(0, MOVABLE, 4, 20);
        x.free(1);
        x.go(0);
        x.go(2);
        x.tick(5);
        c.is("block 0 to", x.block(0, 5), 32);
        c.is("block 2 to", x.block(2, 5), 48);
        x.read(4, 2, 0);
        x.read(3, 0, 1);
        x.read(2, 2, 15);
        x.read(1, 0, 0);
        c.is("the line of 0", x.block(0, 8), 2);
        c.is("the line of 2", x.block(2, 8), 2);
        x.tick(1);
        c.is("3 has read", x.task(3, 3), 11);
        c.is("1 has read", x.task(1, 3), 10);
        c.is("2 and 4 still wait", x.look(11), 20);
        c.is("the line of 2", x.block(2, 8), 2);
        x.read(3, 2, 1);
        x.tick(14);
        c.is("none waits", x.look(11), 0);
        c.is("4 has read", x.task(4, 3), 20);
        c.is("2 has read", x.task(2, 3), 35);
        c.line(x, 4, 4, 2, 48);
        c.line(x, 3, 8, 4, 2);
        c.line(x, 2, 8, 2, 2);
        c.line(x, 1, 8, 3, 2);
        c.line(x, 0, 1, 2, 1);
    }

    private void lineOfGivenUp() {
        d.says(PIECE, "as soon as it is not any more");
        SpansAway x = onItsWay();
        x.write(2, 0, 1, 60);
        x.read(1, 0, 1);
        x.giveUp(0);
        c.is("at once, without a tick", x.look(11), 0);
        c.is("written where it was", x.frame(1, 2), 60);
        c.is("read behind it", x.task(1, 3), 60);
        c.is("what was held", x.frame(33, 2), 0);
    }

    private void pinInLine() {
        d.says(PIECE, "and WAIT no more");
        SpansAway x = onItsWay();
        c.is("it waits for its pin", x.pin(1, 0), 1);
        c.is("it waits already", x.pin(1, 0), NONE);
        c.no("it has no pin yet", x.unpin(1, 0));
        x.tick(1);
        c.is("it has it", x.block(0, 4), 2);
        c.is("once more", x.pin(1, 0), NONE);
        c.line(x, 1, 8, 1, 0);
        c.yes("it can go", x.unpin(1, 0));
    }

    private void atOnce() {
        d.says(PIECE, "its FRAMES are those, with its VALUES; the old ones FREE, VALUES 0");
        SpansAway x = new SpansAway();
        x.take(0, MOVABLE, 4, 0);
        x.take(0, MOVABLE, 4, Integer.MAX_VALUE - 3);
        x.free(0);
        c.is("press(0)", x.press(0), 1);
        c.is("its first frame", x.block(1, 0), 0);
        for (int f = 0; f < 16; f++) {
            c.is("value of " + f, x.frame(f, 2), Integer.MAX_VALUE - 3 + f);
            c.is("state of " + (16 + f), x.frame(16 + f, 0), 1);
            c.is("value of " + (16 + f), x.frame(16 + f, 2), 0);
        }
        c.is("no copy is counted", x.count(3), 0);
        c.is("no tick", x.look(4), 0);
    }

    private void pressEmptyAndFull() {
        d.says(PIECE, "is there a PLACE of its ORDER in this SPAN ahead of it");
        SpansAway x = new SpansAway();
        c.is("empty", x.press(0), 0);
        x.take(0, MOVABLE, 4, 0);
        c.is("nothing ahead", x.press(0), 0);
        x.take(0, MOVABLE, 4, 0);
        c.is("full", x.press(0), 0);
        c.is("went", x.count(10), 0);
        SpansAway y = new SpansAway();
        y.take(0, UNMOVABLE, 0, 0);
        y.take(0, MOVABLE, 1, 0);
        y.take(0, MOVABLE, 0, 0);
        y.take(0, MOVABLE, 2, 0);
        // 0 stays, 2 .. 3, 1, 4 .. 7: one frame ahead of nothing, none of order 1 or 2
        y.free(2);
        c.is("a place, but of too small an order", y.press(0), 0);
    }

    private void pressPassesOver() {
        d.says(PIECE, "its MOVABLE BLOCKS, not PINNED, not on their way");
        SpansAway x = new SpansAway();
        x.take(0, UNMOVABLE, 0, 0);
        x.take(0, UNMOVABLE, 0, 1);
        x.take(1, CACHE, 0, 2);
        x.take(2, MOVABLE, 0, 3);
        x.take(3, MOVABLE, 0, 4);
        x.pin(0, 3);
        x.free(0);
        c.is("only the last", x.press(0), 1);
        c.is("unmovable", x.block(1, 0), 1);
        c.is("cache", x.block(2, 0), 2);
        c.is("pinned", x.block(3, 0), 3);
        c.is("of another task, too", x.block(4, 0), 0);
    }

    /** Frames 34, 35 of span 1 are held for block 0. */
    private void pressNotOverHeld() {
        d.says(PIECE, "in this SPAN ahead of it, AT ONCE to the first");
        SpansAway x = new SpansAway();
        x.set(0, 1);
        x.take(0, MOVABLE, 1, 10);
        x.home(1, 1);
        x.take(1, MOVABLE, 0, 5);
        x.take(1, MOVABLE, 0, 6);
        x.go(0);
        x.tick(5);
        c.is("held from", x.block(0, 5), 34);
        x.free(1);
        x.take(1, MOVABLE, 1, 7);
        c.is("behind what is held", x.block(1, 0), 36);
        c.is("only the small one", x.press(1), 1);
        c.is("the small one", x.block(2, 0), 32);
        c.is("held frames are no place", x.block(1, 0), 36);
        c.is("still on its way", x.block(0, 5), 34);
        x.tick(1);
        c.is("arrived", x.block(0, 0), 34);
        c.is("its value", x.frame(35, 2), 11);
    }

    private void pressGreatestFirst() {
        d.says(PIECE, "from the one of the greatest FRAME on");
        SpansAway x = new SpansAway();
        for (int b = 0; b < 4; b++) {
            x.take(0, MOVABLE, 0, b);
        }
        x.free(0);
        x.free(1);
        c.is("both", x.press(0), 2);
        c.is("the greatest first", x.block(3, 0), 0);
        c.is("then the other", x.block(2, 0), 1);
        c.is("its value", x.frame(1, 2), 2);
    }

    private void pressWithinSpan() {
        d.says(PIECE, "in this SPAN");
        SpansAway x = new SpansAway();
        x.home(1, 1);
        x.take(1, MOVABLE, 0, 0);
        c.is("frames of span 0 are ahead of it", x.press(1), 0);
        c.is("it stays", x.block(0, 0), 32);
        c.is("span 0 has none", x.press(0), 0);
    }

    private void gatherNone() {
        d.says(PIECE, "TO GATHER for a TASK: its MOVABLE BLOCKS");
        SpansAway x = new SpansAway();
        c.is("nothing at all", x.gather(0), 0);
        x.take(1, MOVABLE, 0, 0);
        x.home(1, 1);
        c.is("none of its own", x.gather(0), 0);
        c.is("its own", x.gather(1), 1);
        c.is("at home", x.block(0, 0), 32);
        c.is("once more", x.gather(1), 0);
    }

    private void gatherLessRank() {
        d.says(PIECE, "less RANK than the SPAN in which it is");
        SpansAway x = new SpansAway();
        x.come(2, 0);
        x.take(0, MOVABLE, 4, 0);
        x.take(0, MOVABLE, 4, 0);
        x.take(0, MOVABLE, 4, 0);
        x.free(0);
        c.is("span 0 and 2 are alike", x.gather(0), 0);
        x.home(0, 1);
        c.is("span 1 is less, for both", x.gather(0), 2);
        c.is("the first", x.block(1, 0), 32);
        c.is("the second", x.block(2, 0), 48);
        x.come(4, 1);
        c.is("zone MOVABLE away is less than NORMAL at home", x.gather(0), 2);
        x.come(3, 1);
        c.is("and at home less than away", x.gather(0), 2);
        c.is("the first", x.block(1, 0), 96);
        x.home(0, 0);
        c.is("and back again", x.gather(0), 2);
        c.is("the first", x.block(1, 0), 128);
    }

    private void gatherByNumber() {
        d.says(PIECE, "its MOVABLE BLOCKS by number");
        SpansAway x = new SpansAway();
        x.home(1, 1);
        x.take(1, UNMOVABLE, 4, 0);
        x.take(0, MOVABLE, 4, 0);
        x.take(0, MOVABLE, 4, 0);
        x.home(0, 1);
        c.is("a place for one", x.gather(0), 1);
        c.is("the lesser number", x.block(1, 0), 48);
        c.is("the other stays", x.block(2, 0), 16);
    }

    private void gatherOnlyOn() {
        d.says(PIECE, "THE BEST PLACE for it in SPANS that are ON");
        SpansAway x = new SpansAway();
        x.come(3, 0);
        x.take(0, MOVABLE, 0, 0);
        x.home(0, 1);
        x.go(1);
        c.is("past span 1, which is going", x.gather(0), 1);
        c.is("in span 3", x.block(0, 0), 96);
        x.home(0, 0);
        x.go(3);
        c.is("not from a span that is going", x.gather(0), 0);
        x.giveUp(3);
        c.is("from one that is on again", x.gather(0), 1);
        c.is("in span 0", x.block(0, 0), 0);
    }

    private void gatherPassesOver() {
        d.says(PIECE, "not PINNED, not on their way, in SPANS that are ON");
        SpansAway x = new SpansAway();
        x.take(0, MOVABLE, 0, 0);
        x.take(0, UNMOVABLE, 0, 0);
        x.take(0, CACHE, 0, 0);
        x.take(0, MOVABLE, 0, 0);
        x.pin(3, 0);
        x.home(0, 1);
        c.is("only the last", x.gather(0), 1);
        c.is("pinned", x.block(0, 0), 0);
        c.is("unmovable", x.block(1, 0), 1);
        c.is("cache", x.block(2, 0), 2);
        c.is("the last", x.block(3, 0), 32);
        SpansAway y = onItsWay();
        y.come(2, 0);
        c.is("on its way", y.gather(0), 0);
        c.is("still to", y.block(0, 5), 32);
    }

    private void gatherFull() {
        d.says(PIECE, "has THE BEST PLACE for it in SPANS that are ON");
        SpansAway x = new SpansAway();
        for (int b = 0; b < 4; b++) {
            x.take(0, MOVABLE, 4, 100 * b);
        }
        c.is("no place at all", x.gather(0), 0);
        c.is("away from home", x.block(2, 0), 32);
        c.is("its value", x.frame(32, 2), 200);
        c.is("what is there stays", x.frame(0, 2), 0);
        x.home(0, 1);
        c.is("nor for those of span 0", x.gather(0), 0);
    }

    private void comeByRatio() {
        d.says(PIECE, "is at most RATIO times FRAMES of SPANS of ZONE NORMAL; else NORMAL");
        int[][] due = {{0, 0}, {49, 0}, {50, 1}, {51, 1}, {400, 1}};
        for (int[] one : due) {
            SpansAway x = new SpansAway();
            x.set(2, one[0]);
            c.is("the first, ratio " + one[0], x.come(2, 2), one[1]);
        }
        SpansAway x = new SpansAway();
        x.set(2, 100);
        c.is("1 of 2", x.come(2, 2), 1);
        c.is("2 of 2, just at it", x.come(3, 2), 1);
        c.is("3 of 2", x.come(4, 2), 0);
        c.is("3 of 3", x.come(5, 2), 1);
        x.go(5);
        c.is("one that is going is still of its zone: 4 of 3", x.come(6, 2), 0);
        x.tick(5);
        c.is("it is off: 3 of 4", x.come(7, 2), 1);
        SpansAway y = new SpansAway();
        y.set(2, 400);
        for (int s = 2; s < 8; s++) {
            c.is("6 of 2 at most", y.come(s, 2), 1);
        }
    }

    private void comeFree() {
        d.says(PIECE, "All its FRAMES are FREE");
        SpansAway x = new SpansAway();
        x.come(2, 1);
        x.take(0, MOVABLE, 4, 7);
        x.go(2);
        x.tick(8);
        c.is("off", x.span(2, 0), 0);
        c.is("come(2, 1)", x.come(2, 1), 1);
        c.is("free", x.span(2, 2), 32);
        c.is("apart", x.span(2, 3), 0);
        c.is("a value", x.frame(64, 2), 0);
        c.is("nobody's", x.frame(64, 1), NONE);
        c.is("hole", x.hole(64), 5);
        c.is("parts", x.span(2, 6), 0);
    }

    private void turnsAlike() {
        d.says(PIECE, "the one with fewer SPANS that are not, of both alike NODE 0: its least one, by RATIO");
        SpansAway x = new SpansAway();
        int[][] due = {{2, 1}, {3, 1}, {4, 1}, {5, 0}, {6, 1}, {7, 0}};
        for (int[] one : due) {
            c.is("byTurns(1)", x.byTurns(1), 1);
            c.line(x, 0, 3, one[0], one[1]);
        }
        c.is("none is left", x.byTurns(1), 0);
        SpansAway y = new SpansAway();
        y.come(6, 0);
        c.is("byTurns(2)", y.byTurns(2), 2);
        c.line(y, 1, 3, 3, 1);
        c.line(y, 0, 3, 2, 1);
        SpansAway z = new SpansAway();
        z.go(0);
        z.byTurns(1);
        c.is("one that is going is not off", z.log(0, 2), 2);
        z.tick(5);
        c.is("span 0 is off", z.span(0, 0), 0);
        z.byTurns(1);
        c.is("the least of node 0", z.log(0, 2), 0);
    }

    private void turnsOneNodeFull() {
        d.says(PIECE, "of the NODES with SPANS that are OFF");
        SpansAway x = new SpansAway();
        for (int s = 3; s < 8; s += 2) {
            x.come(s, 0);
        }
        c.is("node 1 has none that is off", x.byTurns(8), 3);
        c.is("all of node 0", x.look(6), 8);
        SpansAway y = new SpansAway();
        y.come(2, 0);
        y.come(4, 0);
        y.come(6, 0);
        y.byTurns(1);
        c.is("node 0 has none that is off", y.log(0, 2), 3);
    }
}
