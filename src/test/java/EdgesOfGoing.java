/** A case for each edge that piece 3 of the document names: how a span goes, tick by tick. */
final class EdgesOfGoing {
    private static final String PIECE = "==== 3.";
    private static final int NONE = SpansAway.NONE;
    private static final int MOVABLE = 0;
    private static final int UNMOVABLE = 1;
    private static final int CACHE = 2;

    private final Check c;
    private final Document d;

    EdgesOfGoing(Check c, Document d) {
        this.c = c;
        this.d = d;
    }

    void all() {
        anotherNormalOn();
        tickIsOneMore();
        lesserFailsAhead();
        greaterFailsBehind();
        unmovableInAnyPart();
        unmovableInTwoParts();
        unmovableComesMeanwhile();
        shutLeavesTaken();
        fourthPart();
        pauseOfOneAndTwenty();
        nextPassFromFirst();
        rateEdges();
        rateToldMeanwhile();
        nothingInIt();
        arrivedWhereThePassIs();
        arrivedAheadOfThePass();
        pinnedIsPassed();
        cachesCostNothing();
        pinnedCacheIsPassed();
        placeForItsOwner();
        placeOnlyOn();
        smallestWithoutPlace();
        splitOnce();
        splitToTheLast();
        splitWithoutNumber();
        splitAsItIs();
        allThisCostsNothing();
        nextWithoutFrames();
        sharedRate();
        arrivedLine();
        offAtOnce();
        heldIsNotOff();
        triesEdges();
        triesToldMeanwhile();
        whyOfTheFirst();
        whyWithoutBlock();
        pauseTold();
        givenUpShutting();
        givenUpPausing();
        givenUpMoving();
        givenUpHeldInShutPart();
        failsByItself();
        notFreedOnItsWay();
    }

    /** Span 1 is full of blocks that stay: two of order 4, numbers 0 and 1. */
    private static SpansAway oneFull() {
        SpansAway x = new SpansAway();
        x.home(5, 1);
        x.take(5, UNMOVABLE, 4, 0);
        x.take(5, UNMOVABLE, 4, 0);
        return x;
    }

    /** Block 0 (order 0) lies pinned in span 0, which goes; at tick 5 its first pass is over. */
    private static SpansAway pinnedAfterPass(int tries, int pause) {
        SpansAway x = new SpansAway();
        x.set(1, tries);
        x.set(3, pause);
        x.take(0, MOVABLE, 0, 4);
        x.pin(1, 0);
        x.go(0);
        x.tick(5);
        return x;
    }

    private void anotherNormalOn() {
        d.says(PIECE, "(there must be another one of ZONE NORMAL that is ON)");
        SpansAway x = new SpansAway();
        x.come(2, 1);
        x.come(3, 1);
        c.yes("go(0), 1 is on", x.go(0));
        c.no("go(1), 0 is going", x.go(1));
        c.yes("go(2), 1 is on", x.go(2));
        c.yes("go(3), 1 is on", x.go(3));
        x.tick(5);
        c.is("1 alone is left", x.look(6), 1);
        c.no("go(1), no other", x.go(1));
        x.come(2, 1);
        c.no("go(1), the other is of zone MOVABLE", x.go(1));
        x.come(4, 0);
        c.yes("go(1), 4 is on", x.go(1));
        c.no("go(4), 1 is going", x.go(4));
        x.giveUp(1);
        c.yes("go(4), 1 is on again", x.go(4));
    }

    private void tickIsOneMore() {
        d.says(PIECE, "Each TICK (one more)");
        SpansAway x = new SpansAway();
        x.go(0);
        c.is("tick of go", x.log(0, 0), 0);
        c.is("tick(5)", x.tick(5), 5);
        c.line(x, 0, 1, 0, 1);
        c.is("tick of off", x.log(0, 0), 5);
        c.is("nothing goes: time does", x.tick(60), 65);
    }

    /** Span 0 fails in the tick in which span 1 looks for a place, ahead of it. */
    private void lesserFailsAhead() {
        d.says(PIECE, "SPANS that are GOING by number");
        SpansAway x = new SpansAway();
        x.come(2, 0);
        x.home(1, 1);
        x.take(1, MOVABLE, 4, 0);
        x.take(0, MOVABLE, 4, 0);
        for (int b = 2; b < 5; b++) {
            x.take(0, UNMOVABLE, 4, 0);
        }
        x.free(2);
        x.pin(0, 1);
        x.set(1, 1);
        x.go(1);
        x.go(0);
        x.tick(5);
        c.is("span 0 is on", x.span(0, 0), 1);
        c.is("block 0 comes to it", x.block(0, 5), 16);
        c.is("nothing is split", x.count(4), 0);
        c.line(x, 0, 2, 0, 1);
    }

    /** Span 1 fails in the tick in which span 0 looks for a place, behind it. */
    private void greaterFailsBehind() {
        d.says(PIECE, "SPANS that are GOING by number");
        SpansAway x = new SpansAway();
        x.come(2, 0);
        x.home(1, 1);
        x.take(1, MOVABLE, 4, 0);
        x.take(0, MOVABLE, 4, 0);
        for (int b = 2; b < 5; b++) {
            x.take(0, UNMOVABLE, 4, 0);
        }
        x.free(2);
        x.pin(1, 0);
        x.set(1, 1);
        x.go(1);
        x.go(0);
        x.tick(5);
        c.is("block 1 is split to single frames", x.count(4), 15);
        c.line(x, 1, 2, 0, 2);
        c.line(x, 0, 2, 1, 1);
        c.is("both are on", x.look(12), 0);
    }

    private void unmovableInAnyPart() {
        d.says(PIECE, "has an UNMOVABLE BLOCK a FRAME in it: it FAILS (why 0)");
        for (int at : new int[] {0, 7, 8, 15, 16, 23, 24, 31}) {
            SpansAway x = new SpansAway();
            for (int b = 0; b < 32; b++) {
                x.take(0, b == at ? UNMOVABLE : MOVABLE, 0, 0);
            }
            for (int b = 0; b < 32; b++) {
                x.free(b == at ? NONE : b);
            }
            c.is("it lies at", x.block(at, 0), at);
            x.go(0);
            for (int part = 0; part < at / 8; part++) {
                x.tick(1);
                c.is("shutting", x.span(0, 0), 2);
                c.is("parts", x.span(0, 6), part + 1);
            }
            x.tick(1);
            c.is("on", x.span(0, 0), 1);
            c.is("why", x.span(0, 10), 0);
            c.is("parts", x.span(0, 6), 0);
            c.is("all open", x.span(0, 2), 31);
            c.line(x, 0, 2, 0, 0);
            c.is("no pass was over", x.count(9), 0);
        }
    }

    private void unmovableInTwoParts() {
        d.says(PIECE, "its next PART: has an UNMOVABLE BLOCK a FRAME in it");
        SpansAway x = new SpansAway();
        x.take(0, CACHE, 4, 0);
        x.take(0, UNMOVABLE, 4, 0);
        x.go(0);
        x.tick(2);
        c.is("shutting", x.span(0, 0), 2);
        x.tick(1);
        c.is("its first part is the third", x.span(0, 0), 1);
        c.is("why", x.span(0, 10), 0);
        c.is("the cache is not dropped", x.count(5), 0);
    }

    private void unmovableComesMeanwhile() {
        d.says(PIECE, "it FAILS (why 0)");
        SpansAway x = new SpansAway();
        x.go(0);
        x.tick(3);
        c.is("it comes into the last part", x.block(x.take(0, UNMOVABLE, 0, 0), 0), 24);
        x.tick(1);
        c.is("on", x.span(0, 0), 1);
        c.is("why", x.span(0, 10), 0);
        x.free(0);
        x.go(0);
        x.take(0, UNMOVABLE, 0, 0);
        x.free(0);
        x.tick(5);
        c.is("it was gone in time", x.span(0, 0), 0);
    }

    private void shutLeavesTaken() {
        d.says(PIECE, "Else the PART is SHUT, its FREE FRAMES are APART");
        SpansAway x = new SpansAway();
        x.take(0, MOVABLE, 1, 5);
        x.go(0);
        x.tick(1);
        c.is("taken", x.frame(1, 0), 3);
        c.is("its value", x.frame(1, 2), 6);
        c.is("apart", x.frame(2, 0), 2);
        c.is("how many are apart", x.span(0, 3), 6);
        c.is("how many are taken", x.span(0, 4), 2);
        c.is("free", x.span(0, 2), 24);
    }

    private void fourthPart() {
        d.says(PIECE, "Was it the fourth: it is MOVING, PASS is 1, from its first FRAME on");
        SpansAway x = new SpansAway();
        x.take(0, MOVABLE, 0, 5);
        x.go(0);
        x.tick(3);
        c.is("shutting", x.span(0, 0), 2);
        c.is("no pass", x.span(0, 7), 0);
        x.tick(1);
        c.is("moving", x.span(0, 0), 3);
        c.is("pass", x.span(0, 7), 1);
        c.is("nothing moves in that tick", x.span(0, 9), NONE);
        c.is("nothing is copied", x.count(3), 0);
        x.tick(1);
        c.is("the block at frame 0", x.block(0, 0), 32);
    }

    private void pauseOfOneAndTwenty() {
        d.says(PIECE, "does it PAUSE: one TICK less; is it over then, the next PASS begins in the next TICK");
        for (int pause : new int[] {1, 20}) {
            SpansAway x = pinnedAfterPass(2, pause);
            c.is("pause", x.span(0, 8), pause);
            c.is("pass", x.span(0, 7), 2);
            x.tick(pause);
            c.is("over", x.span(0, 8), 0);
            c.is("moving", x.span(0, 0), 3);
            c.is("the pass has not begun", x.count(9), 1);
            x.tick(1);
            c.is("it is over, too", x.count(9), 2);
            c.is("failed", x.span(0, 0), 1);
        }
    }

    private void nextPassFromFirst() {
        d.says(PIECE, "the next PASS begins in the next TICK, from the first FRAME on");
        SpansAway x = pinnedAfterPass(3, 2);
        x.unpin(1, 0);
        x.tick(2);
        c.is("it is still there", x.block(0, 0), 0);
        x.tick(1);
        c.is("it has gone", x.block(0, 0), 32);
        c.is("off", x.span(0, 0), 0);
        c.line(x, 0, 1, 0, 2);
    }

    private void rateEdges() {
        d.says(PIECE, "Else it has RATE FRAMES to copy in that TICK");
        SpansAway x = new SpansAway();
        x.set(0, 16);
        x.take(0, MOVABLE, 4, 0);
        x.take(0, MOVABLE, 4, 0);
        x.go(0);
        x.tick(5);
        c.is("16 in one tick", x.count(3), 16);
        c.is("the second has not gone", x.block(1, 0), 16);
        x.tick(1);
        c.is("off", x.span(0, 0), 0);
        SpansAway y = new SpansAway();
        y.set(0, 1);
        y.take(0, MOVABLE, 4, 0);
        y.go(0);
        y.tick(19);
        c.is("15 of 16", y.block(0, 6), 15);
        c.is("still there", y.block(0, 0), 0);
        y.tick(1);
        c.is("arrived", y.block(0, 0), 32);
        c.is("none is copied any more", y.block(0, 6), 0);
        c.is("off", y.span(0, 0), 0);
    }

    private void rateToldMeanwhile() {
        d.says(PIECE, "RATE FRAMES to copy in that TICK");
        SpansAway x = new SpansAway();
        x.set(0, 1);
        x.take(0, MOVABLE, 4, 0);
        x.go(0);
        x.tick(5);
        c.is("one", x.block(0, 6), 1);
        x.set(0, 14);
        x.tick(1);
        c.is("fourteen more", x.block(0, 6), 15);
        x.tick(1);
        c.is("the last", x.block(0, 0), 32);
        c.is("no more than there were", x.count(3), 16);
    }

    private void nothingInIt() {
        d.says(PIECE, "none: the PASS is over, at once");
        SpansAway x = new SpansAway();
        x.set(0, 1);
        x.go(0);
        x.tick(4);
        c.is("moving", x.span(0, 0), 3);
        x.tick(1);
        c.is("off", x.span(0, 0), 0);
        c.is("passes", x.count(9), 1);
        c.is("copied", x.count(3), 0);
    }

    /**
     * Block 0 (order 3) leaves span 0 for 72, block 3 (order 3) lies at 64 in span 2; span 2 begins to go when block 0
     * is on its way: block 0 arrives at tick 12, and block 3 has left at tick 17.
     */
    private void arrivedWhereThePassIs() {
        d.says(PIECE, "the first one whose first FRAME is where the PASS has come to or behind that");
        SpansAway x = new SpansAway();
        x.come(2, 0);
        x.set(0, 1);
        x.take(0, MOVABLE, 3, 0);
        x.take(0, MOVABLE, 3, 0);
        x.take(0, MOVABLE, 4, 0);
        x.take(0, MOVABLE, 3, 0);
        x.free(1);
        x.free(2);
        x.go(0);
        x.tick(5);
        c.is("block 0 to", x.block(0, 5), 72);
        x.go(2);
        x.tick(7);
        c.is("block 0 has arrived", x.block(0, 0), 72);
        c.is("block 3 is on its way", x.block(3, 5), 32);
        x.tick(4);
        c.is("all but one", x.block(3, 6), 7);
        x.tick(1);
        c.is("block 3 has arrived", x.block(3, 0), 32);
        c.is("block 0 is seen in this pass", x.span(2, 9), 0);
        c.is("pass", x.span(2, 7), 1);
        c.is("nothing of it is copied yet", x.block(0, 6), 0);
    }

    /** As above, but block 0 comes to 64 and block 4 lies at 72: the pass is behind 64 when block 0 arrives. */
    private void arrivedAheadOfThePass() {
        d.says(PIECE, "where the PASS has come to or behind that: none: the PASS is over");
        SpansAway x = new SpansAway();
        x.come(2, 0);
        x.set(0, 1);
        x.take(0, MOVABLE, 3, 0);
        x.take(0, MOVABLE, 3, 0);
        x.take(0, MOVABLE, 4, 0);
        x.take(0, MOVABLE, 3, 0);
        x.take(0, MOVABLE, 3, 0);
        x.free(1);
        x.free(2);
        x.free(3);
        x.go(0);
        x.tick(5);
        c.is("block 0 to", x.block(0, 5), 64);
        x.go(2);
        x.tick(12);
        c.is("block 4 has arrived", x.block(4, 0), 32);
        c.is("block 0 lies in span 2", x.block(0, 0), 64);
        c.is("nothing is on its way", x.span(2, 9), NONE);
        c.is("the pass is over", x.span(2, 7), 2);
        c.is("it pauses", x.span(2, 8), 2);
        x.tick(3);
        c.is("seen in the next pass", x.span(2, 9), 0);
    }

    private void pinnedIsPassed() {
        d.says(PIECE, "UNMOVABLE, or PINNED: passed over (the PASS is behind it)");
        SpansAway x = new SpansAway();
        x.take(0, MOVABLE, 0, 0);
        x.take(0, MOVABLE, 0, 0);
        x.take(0, MOVABLE, 0, 0);
        x.pin(3, 0);
        x.pin(3, 2);
        x.go(0);
        x.tick(5);
        c.is("the first stays", x.block(0, 0), 0);
        c.is("the second has gone", x.block(1, 0), 32);
        c.is("the third stays", x.block(2, 0), 2);
        c.is("the pass is over", x.span(0, 7), 2);
    }

    private void cachesCostNothing() {
        d.says(PIECE, "A CACHE: DROPPED");
        SpansAway x = new SpansAway();
        x.set(0, 1);
        for (int order = 0; order <= 3; order++) {
            x.take(0, CACHE, order, 0);
        }
        x.take(0, CACHE, 4, 0);
        x.go(0);
        x.tick(4);
        c.is("none is dropped while it shuts", x.count(5), 0);
        x.tick(1);
        c.is("all in one tick", x.count(5), 5);
        c.is("nothing is copied", x.count(3), 0);
        c.is("off", x.span(0, 0), 0);
        c.line(x, 5, 6, 0, 0);
        c.line(x, 1, 6, 4, 16);
        c.is("blocks", x.look(5), 0);
    }

    private void pinnedCacheIsPassed() {
        d.says(PIECE, "PINNED: passed over");
        SpansAway x = new SpansAway();
        x.take(0, CACHE, 0, 0);
        x.pin(3, 0);
        x.set(1, 1);
        x.go(0);
        x.tick(5);
        c.is("not dropped", x.count(5), 0);
        c.is("why", x.span(0, 10), 1);
    }

    private void placeForItsOwner() {
        d.says(PIECE, "Else THE BEST PLACE for its KIND and OWNER");
        int[] due = {64, 32};
        for (int node = 0; node < 2; node++) {
            SpansAway x = new SpansAway();
            x.come(2, 0);
            x.take(4, MOVABLE, 0, 0);
            x.home(4, node);
            x.go(0);
            x.tick(5);
            c.is("home " + node, x.block(0, 0), due[node]);
        }
        SpansAway y = new SpansAway();
        y.come(3, 1);
        y.come(2, 0);
        y.go(3);
        y.take(4, MOVABLE, 0, 0);
        c.is("it lies in zone MOVABLE", y.block(0, 0), 96);
        y.come(5, 1);
        y.tick(5);
        c.is("and stays there, away from home", y.block(0, 0), 160);
    }

    private void placeOnlyOn() {
        d.says(PIECE, "in SPANS that are ON: it is on its way there (FRAMES HELD, the PASS is behind it)");
        SpansAway x = new SpansAway();
        x.come(2, 0);
        x.set(0, 1);
        x.take(0, MOVABLE, 1, 7);
        x.go(0);
        x.tick(3);
        x.go(2);
        x.tick(2);
        c.is("span 2 is going: to span 1", x.block(0, 5), 32);
        c.is("held", x.frame(33, 0), 4);
        c.is("for it", x.frame(33, 1), 0);
        c.is("it has its own frames", x.frame(1, 1), 0);
        c.is("from span 0", x.span(0, 9), 0);
        c.is("how many are held", x.look(10), 2);
        c.is("and taken", x.look(9), 2);
    }

    private void smallestWithoutPlace() {
        d.says(PIECE, "has it an ORDER above 0");
        d.says(PIECE, "else passed over");
        SpansAway x = oneFull();
        x.take(0, MOVABLE, 0, 0);
        x.go(0);
        x.tick(5);
        c.is("not split", x.count(4), 0);
        c.is("it stays", x.block(2, 0), 0);
        c.is("the pass is over", x.span(0, 7), 2);
    }

    /** Span 1 has two holes of 8 frames apart from one another. */
    private void splitOnce() {
        d.says(PIECE, "two BLOCKS of an ORDER less, the second one new");
        SpansAway x = new SpansAway();
        x.set(0, 1);
        x.home(5, 1);
        for (int b = 0; b < 4; b++) {
            x.take(5, UNMOVABLE, 3, 0);
        }
        x.free(1);
        x.free(3);
        x.take(0, MOVABLE, 4, 100);
        x.go(0);
        x.tick(5);
        c.line(x, 0, 5, 1, 3);
        c.is("the first half goes to", x.block(1, 5), 40);
        c.is("the new one's order", x.block(3, 1), 3);
        c.is("its first frame", x.block(3, 0), 8);
        for (int f = 0; f < 16; f++) {
            c.is("frame(" + f + ", 1)", x.frame(f, 1), f < 8 ? 1 : 3);
            c.is("frame(" + f + ", 2)", x.frame(f, 2), 100 + f);
        }
        x.tick(15);
        c.is("both have arrived", x.count(2), 2);
        c.is("the second", x.block(3, 0), 56);
        c.is("its last value", x.frame(63, 2), 115);
        c.is("off", x.span(0, 0), 0);
    }

    private void splitToTheLast() {
        d.says(PIECE, "it is SPLIT: two BLOCKS of an ORDER less");
        d.says(PIECE, "and the first of them is looked at");
        SpansAway x = oneFull();
        x.take(0, MOVABLE, 4, 100);
        x.set(1, 1);
        x.go(0);
        x.tick(5);
        c.is("to single frames", x.count(4), 15);
        c.is("blocks", x.look(5), 18);
        c.line(x, 15, 5, 2, 3);
        c.line(x, 14, 5, 2, 4);
        c.line(x, 13, 5, 2, 5);
        c.line(x, 12, 5, 2, 6);
        c.line(x, 11, 5, 5, 7);
        c.line(x, 10, 5, 4, 8);
        int[] due = {2, 6, 5, 7, 4, 9, 8, 10, 3, 13, 12, 14, 11, 16, 15, 17};
        for (int f = 0; f < 16; f++) {
            c.is("frame(" + f + ", 1)", x.frame(f, 1), due[f]);
            c.is("frame(" + f + ", 2)", x.frame(f, 2), 100 + f);
            c.is("block(" + due[f] + ", 0)", x.block(due[f], 0), f);
            c.is("block(" + due[f] + ", 1)", x.block(due[f], 1), 0);
        }
        c.line(x, 0, 2, 0, 2);
    }

    /** Spans 0, 1, 2 are full with 95 blocks; block 0 (order 1) lies in span 3, of zone MOVABLE. */
    private void splitWithoutNumber() {
        d.says(PIECE, "and is there a number");
        SpansAway x = new SpansAway();
        x.come(2, 0);
        x.come(3, 1);
        x.take(0, MOVABLE, 1, 50);
        x.take(0, UNMOVABLE, 1, 0);
        for (int b = 2; b < 96; b++) {
            x.take(0, UNMOVABLE, 0, 0);
        }
        c.is("blocks", x.look(5), 96);
        x.go(3);
        x.tick(5);
        c.is("no number: not split", x.count(4), 0);
        c.is("passed over", x.span(3, 7), 2);
        x.free(40);
        int room = x.place(1, MOVABLE, 0) / 32;
        x.tick(3);
        c.is("a number: split", x.count(4), 1);
        c.line(x, 0, 4, 0, x.block(0, 0));
        c.line(x, 1, 5, 0, 40);
        c.is("the first has gone", x.block(0, 0) / 32, room);
        c.is("the second stays", x.block(40, 0), 97);
        c.is("its value", x.frame(97, 2), 51);
    }

    private void splitAsItIs() {
        d.says(PIECE, "the second one new (OWNER, KIND, USED as it is)");
        SpansAway x = oneFull();
        x.take(4, MOVABLE, 1, 0);
        x.read(0, 0, 0);
        x.read(0, 2, 0);
        x.set(1, 1);
        x.go(0);
        x.tick(5);
        c.is("used of the first", x.block(2, 7), 5);
        c.is("used of the new one", x.block(3, 7), 5);
        c.is("owner", x.block(3, 3), 4);
        c.is("kind", x.block(3, 2), MOVABLE);
        c.is("pins", x.block(3, 4), 0);
        c.is("it owns both", x.task(4, 4), 2);
        c.is("it did not come by take", x.count(0), 3);
    }

    /** Span 1 has frame 63 free; with a rate of 1 all is done in one tick but for what is copied. */
    private void allThisCostsNothing() {
        d.says(PIECE, "All this costs nothing");
        SpansAway x = new SpansAway();
        x.set(0, 1);
        x.home(5, 1);
        for (int order = 4; order >= 0; order--) {
            x.take(5, UNMOVABLE, order, 0);
        }
        x.take(0, MOVABLE, 0, 0);
        x.pin(0, 5);
        x.take(0, CACHE, 0, 0);
        x.take(0, MOVABLE, 1, 8);
        x.go(0);
        x.tick(5);
        c.is("passed over", x.block(5, 0), 0);
        c.is("dropped", x.count(5), 1);
        c.is("split", x.count(4), 1);
        c.is("copied", x.count(3), 1);
        c.is("arrived", x.block(7, 0), 63);
        c.is("its value", x.frame(63, 2), 8);
        c.is("the new one has the number of the cache", x.block(6, 0), 3);
        c.is("the pass is over", x.count(9), 1);
        c.is("it pauses", x.span(0, 8), 2);
    }

    private void nextWithoutFrames() {
        d.says(PIECE, "looked at even if there are no FRAMES to copy left; it is on its way then, nothing copied yet");
        SpansAway x = new SpansAway();
        x.take(0, MOVABLE, 2, 0);
        x.take(0, CACHE, 2, 0);
        x.take(0, MOVABLE, 3, 20);
        x.go(0);
        x.tick(5);
        c.is("the first has arrived", x.block(0, 0), 32);
        c.is("the cache is dropped", x.count(5), 1);
        c.is("the next is on its way", x.span(0, 9), 2);
        c.is("to", x.block(2, 5), 40);
        c.is("nothing is copied", x.block(2, 6), 0);
        c.is("value", x.frame(40, 2), 0);
        c.is("who reads it waits", x.read(1, 2, 0), 1);
    }

    private void sharedRate() {
        d.says(PIECE, "FRAME by FRAME a VALUE is copied, as long as there are FRAMES to copy");
        SpansAway x = new SpansAway();
        x.set(0, 3);
        x.take(0, MOVABLE, 1, 10);
        x.take(0, MOVABLE, 1, 20);
        x.go(0);
        x.tick(5);
        c.is("both of the first", x.block(0, 0), 32);
        c.is("one of the second", x.block(1, 6), 1);
        c.is("its value", x.frame(34, 2), 20);
        c.is("not the other", x.frame(35, 2), 0);
        x.tick(1);
        c.is("the second", x.block(1, 0), 34);
        c.is("off", x.span(0, 0), 0);
        c.is("copied", x.count(3), 4);
        c.is("arrived", x.count(2), 2);
        c.is("taken in span 1", x.span(1, 4), 4);
        c.is("held in span 1", x.span(1, 5), 0);
    }

    private void arrivedLine() {
        d.says(PIECE, "its FRAMES are those, the old ones APART, VALUES 0; THE LINE does what it wanted; then the next BLOCK");
        SpansAway x = new SpansAway();
        x.set(0, 1);
        x.take(0, MOVABLE, 1, 10);
        x.take(0, MOVABLE, 1, 20);
        x.go(0);
        x.tick(5);
        x.write(2, 0, 0, 77);
        x.tick(1);
        c.is("old state", x.frame(0, 0), 2);
        c.is("old value", x.frame(0, 2), 0);
        c.is("nobody's", x.frame(0, 1), NONE);
        c.is("new state", x.frame(32, 0), 3);
        c.is("written where it is now", x.frame(32, 2), 77);
        c.is("the other value", x.frame(33, 2), 11);
        c.is("the next is on its way", x.span(0, 9), 1);
        c.line(x, 0, 8, 2, 0);
        c.line(x, 1, 4, 0, 32);
    }

    private void offAtOnce() {
        d.says(PIECE, "is no FRAME of the SPAN TAKEN or HELD: it is OFF, no PART SHUT, without a ZONE");
        SpansAway x = new SpansAway();
        x.take(0, MOVABLE, 2, 0);
        x.go(0);
        x.tick(5);
        int[] off = {0, NONE, 0, 0, 0, 0, 0, 0, 0, NONE, NONE};
        for (int w = 0; w < off.length; w++) {
            c.is("span(0, " + w + ")", x.span(0, w), off[w]);
        }
        c.line(x, 0, 1, 0, 1);
        c.is("off", x.count(6), 1);
    }

    /** Block 0 (order 4) is on its way to span 2 when span 2 begins to go. */
    private static SpansAway heldInSpanTwo() {
        SpansAway x = new SpansAway();
        x.come(2, 0);
        x.set(0, 1);
        x.take(0, MOVABLE, 4, 100);
        x.go(0);
        x.tick(5);
        x.go(2);
        return x;
    }

    private void heldIsNotOff() {
        d.says(PIECE, "is no FRAME of the SPAN TAKEN or HELD");
        SpansAway x = heldInSpanTwo();
        x.set(1, 9);
        x.tick(5);
        c.is("held", x.span(2, 5), 16);
        c.is("no block is in it", x.span(2, 4), 0);
        c.is("not off", x.span(2, 0), 3);
        c.is("the pass was over", x.span(2, 7), 2);
        c.is("why not yet", x.span(2, 10), NONE);
        x.tick(10);
        c.is("arrived", x.block(0, 0), 64);
        c.is("the fifth pass", x.span(2, 7), 5);
        c.is("a tick of pause is left", x.span(2, 8), 1);
        x.tick(2);
        c.is("on its way again", x.span(2, 9), 0);
        c.is("to", x.block(0, 5), 32);
    }

    private void triesEdges() {
        d.says(PIECE, "Else, is PASS TRIES (or more): it FAILS");
        SpansAway x = pinnedAfterPass(1, 2);
        c.is("one try", x.span(0, 0), 1);
        c.is("passes", x.count(9), 1);
        SpansAway y = pinnedAfterPass(9, 1);
        y.tick(15);
        c.is("the ninth pass", y.span(0, 7), 9);
        c.is("passes", y.count(9), 8);
        y.tick(1);
        c.is("nine tries", y.span(0, 0), 1);
        c.is("passes", y.count(9), 9);
        c.is("failed", y.count(7), 1);
    }

    private void triesToldMeanwhile() {
        d.says(PIECE, "is PASS TRIES (or more)");
        SpansAway x = pinnedAfterPass(9, 1);
        x.tick(4);
        c.is("pass", x.span(0, 7), 4);
        x.set(1, 2);
        c.is("not while it pauses", x.span(0, 0), 3);
        x.tick(1);
        c.is("not while it pauses", x.span(0, 0), 3);
        x.tick(1);
        c.is("four is more than two", x.span(0, 0), 1);
        c.is("why", x.span(0, 10), 1);
    }

    private void whyOfTheFirst() {
        d.says(PIECE, "of the first BLOCK in it 0 UNMOVABLE, 1 PINNED, 2 else");
        for (int pinned = 0; pinned < 2; pinned++) {
            SpansAway x = oneFull();
            x.set(1, 1);
            x.take(0, MOVABLE, 0, 0);
            x.take(0, MOVABLE, 0, 0);
            x.pin(0, 2 + pinned);
            x.go(0);
            x.tick(5);
            c.is("pinned is block " + pinned, x.span(0, 10), pinned == 0 ? 1 : 2);
            c.line(x, 0, 2, 0, pinned == 0 ? 1 : 2);
        }
    }

    private void whyWithoutBlock() {
        d.says(PIECE, "2 without one");
        SpansAway x = heldInSpanTwo();
        x.set(1, 1);
        x.tick(5);
        c.is("on", x.span(2, 0), 1);
        c.is("why", x.span(2, 10), 2);
        c.is("still held", x.span(2, 5), 16);
        c.is("the others are free", x.span(2, 2), 16);
        c.is("still on its way", x.block(0, 5), 64);
    }

    private void pauseTold() {
        d.says(PIECE, "Else PASS is one more, it PAUSES for PAUSE TICKS");
        SpansAway x = pinnedAfterPass(3, 5);
        c.is("pass", x.span(0, 7), 2);
        c.is("pause", x.span(0, 8), 5);
        x.set(3, 1);
        c.is("this pause stays", x.span(0, 8), 5);
        x.tick(6);
        c.is("pass", x.span(0, 7), 3);
        c.is("the next has the new one", x.span(0, 8), 1);
    }

    private void givenUpShutting() {
        d.says(PIECE, "or is GIVEN UP by hand (why 3)");
        SpansAway x = new SpansAway();
        x.go(0);
        c.yes("at once", x.giveUp(0));
        c.is("why", x.span(0, 10), 3);
        x.go(0);
        x.tick(3);
        c.yes("three parts are shut", x.giveUp(0));
        c.is("on", x.span(0, 0), 1);
        c.is("free", x.span(0, 2), 32);
        c.is("apart", x.span(0, 3), 0);
        c.is("parts", x.span(0, 6), 0);
        c.is("failed", x.count(7), 2);
        x.go(0);
        x.tick(1);
        c.is("it begins anew", x.span(0, 6), 1);
    }

    private void givenUpPausing() {
        d.says(PIECE, "all FRAMES that are APART are FREE, no PART is SHUT, it is ON");
        SpansAway x = pinnedAfterPass(3, 20);
        c.yes("while it pauses", x.giveUp(0));
        c.is("on", x.span(0, 0), 1);
        c.is("free", x.span(0, 2), 31);
        c.is("pass", x.span(0, 7), 0);
        c.is("pause", x.span(0, 8), 0);
        x.go(0);
        x.tick(4);
        c.is("pass", x.span(0, 7), 1);
        c.is("no pause is left", x.span(0, 8), 0);
    }

    private void givenUpMoving() {
        d.says(PIECE, "a BLOCK on its way from it stays where it was (FRAMES HELD for it become FREE");
        SpansAway x = new SpansAway();
        x.take(0, MOVABLE, 3, 10);
        x.go(0);
        x.tick(5);
        c.is("half of it is copied", x.block(0, 6), 4);
        x.write(2, 0, 0, 99);
        x.giveUp(0);
        c.is("where it was", x.block(0, 0), 0);
        c.is("not on its way", x.block(0, 5), NONE);
        c.is("nothing is copied", x.block(0, 6), 0);
        c.is("copied in all", x.count(3), 4);
        c.is("written where it was", x.frame(0, 2), 99);
        c.is("its last value", x.frame(7, 2), 17);
        c.is("held before", x.frame(32, 0), 1);
        c.is("value", x.frame(32, 2), 0);
        c.is("held", x.look(10), 0);
        c.is("arrived", x.count(2), 0);
        c.line(x, 0, 2, 0, 3);
        c.line(x, 1, 8, 2, 0);
        c.yes("it can be freed", x.free(0));
    }

    private void givenUpHeldInShutPart() {
        d.says(PIECE, "in a PART that is SHUT APART, VALUES 0");
        SpansAway x = heldInSpanTwo();
        x.tick(1);
        x.giveUp(0);
        c.is("the last of the shut part", x.frame(71, 0), 2);
        c.is("the first behind it", x.frame(72, 0), 1);
        c.is("value", x.frame(64, 2), 0);
        c.is("nobody's", x.frame(64, 1), NONE);
        c.is("apart", x.span(2, 3), 8);
        c.is("span 2 is still going", x.span(2, 0), 2);
        x.tick(4);
        c.is("and goes", x.span(2, 0), 0);
    }

    private void failsByItself() {
        d.says(PIECE, "It FAILS");
        SpansAway x = pinnedAfterPass(1, 2);
        c.is("on", x.span(0, 0), 1);
        c.is("zone", x.span(0, 1), 0);
        c.is("free", x.span(0, 2), 31);
        c.is("apart", x.span(0, 3), 0);
        c.is("parts", x.span(0, 6), 0);
        c.is("pass", x.span(0, 7), 0);
        c.is("why", x.span(0, 10), 1);
        c.is("its value", x.frame(0, 2), 4);
        c.yes("it may go again", x.go(0));
        c.is("why it failed last stays", x.span(0, 10), 1);
    }

    private void notFreedOnItsWay() {
        d.says(PIECE, "(A BLOCK that is on its way can't be freed.)");
        SpansAway x = new SpansAway();
        x.take(0, MOVABLE, 3, 10);
        x.go(0);
        x.tick(4);
        c.is("not yet on its way", x.block(0, 5), NONE);
        x.tick(1);
        c.no("on its way", x.free(0));
        c.is("it is there", x.block(0, 1), 3);
        x.tick(1);
        c.yes("arrived", x.free(0));
        SpansAway y = new SpansAway();
        y.take(0, MOVABLE, 3, 10);
        y.go(0);
        y.tick(4);
        c.yes("in a span that is moving, but not on its way", y.free(0));
    }
}
