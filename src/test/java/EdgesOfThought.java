/** A case for each edge that piece 4 of the document names: who keeps a span, what would be, the log, the image. */
final class EdgesOfThought {
    private static final String PIECE = "==== 4.";
    private static final int NONE = SpansAway.NONE;
    private static final int MOVABLE = 0;
    private static final int UNMOVABLE = 1;
    private static final int CACHE = 2;

    private final Check c;
    private final Document d;

    EdgesOfThought(Check c, Document d) {
        this.c = c;
        this.d = d;
    }

    void all() {
        nobodyKeeps();
        keepsByFrame();
        keepsWhy();
        keepsWithoutPlace();
        keepsBesideSpanZero();
        keepsOnlyWhatLiesInIt();
        nothingStays();
        begins();
        othersGoOn();
        othersGoOnWhereTheyAre();
        ticksOfWould();
        longestWould();
        wouldAtTheLastTick();
        easiestOfSeveral();
        easiestNone();
        givenBackAllButOne();
        givenBackNone();
        givenBackTicksGone();
        looseEdges();
        logOfSixty();
        logOfEach();
        logOrder();
        logOfAllSixty();
        imageAgain();
        imageAll();
        imageOfWishes();
        imageOfTheLog();
        imageOfThePass();
        constant();
    }

    private void nobodyKeeps() {
        d.says(PIECE, "WHO KEEPS a SPAN: BLOCKS that have FRAMES in it");
        SpansAway x = new SpansAway();
        c.is("empty", x.keeps(0, NONE, 0), 0);
        c.is("empty", x.keeps(0, 0, 0), NONE);
        c.is("off", x.keeps(7, NONE, 0), 0);
        c.is("off", x.keeps(7, 0, 0), NONE);
        x.take(0, MOVABLE, 4, 0);
        x.take(0, CACHE, 0, 0);
        c.is("movable with a place, cache", x.keeps(0, NONE, 0), 0);
    }

    /** Block 3 is pressed to the first frame, ahead of blocks 1 and 2. */
    private void keepsByFrame() {
        d.says(PIECE, "by FRAME, that are UNMOVABLE (0)");
        SpansAway x = new SpansAway();
        for (int b = 0; b < 4; b++) {
            x.take(b, b == 2 ? UNMOVABLE : MOVABLE, 0, 0);
        }
        x.free(0);
        x.press(0);
        x.pin(5, 3);
        x.pin(4, 1);
        c.is("block 3 went ahead", x.block(3, 0), 0);
        c.is("how many", x.keeps(0, NONE, 0), 3);
        int[][] due = {{3, 1, 3, 32}, {1, 1, 1, 16}, {2, 0, 2, 0}};
        for (int i = 0; i < 3; i++) {
            for (int w = 0; w < 4; w++) {
                c.is("keeps(0, " + i + ", " + w + ")", x.keeps(0, i, w), due[i][w]);
            }
        }
        c.is("the fourth", x.keeps(0, 3, 0), NONE);
    }

    private void keepsWhy() {
        d.says(PIECE, "UNMOVABLE (0), else PINNED (1), else, if no CACHE");
        SpansAway x = new SpansAway();
        x.take(0, UNMOVABLE, 0, 0);
        x.take(1, CACHE, 0, 0);
        x.take(2, CACHE, 0, 0);
        x.pin(3, 0);
        x.pin(3, 1);
        c.is("how many", x.keeps(0, NONE, 0), 2);
        c.is("unmovable and pinned", x.keeps(0, 0, 1), 0);
        c.is("a pinned cache", x.keeps(0, 1, 1), 1);
        x.home(5, 1);
        x.take(5, UNMOVABLE, 4, 0);
        x.take(5, UNMOVABLE, 4, 0);
        c.is("a cache without a place elsewhere", x.keeps(0, NONE, 0), 2);
    }

    /** Span 1 has eight frames free; block 0 is of order 4, block 1 of order 3. */
    private void keepsWithoutPlace() {
        d.says(PIECE, "without a PLACE of their ORDER in other SPANS that are ON with a RANK (2)");
        SpansAway x = new SpansAway();
        x.take(0, MOVABLE, 4, 0);
        x.take(0, MOVABLE, 3, 0);
        x.home(5, 1);
        x.take(5, UNMOVABLE, 4, 0);
        x.take(5, UNMOVABLE, 3, 0);
        c.is("a place for 8, not for 16", x.keeps(0, NONE, 0), 1);
        c.is("block", x.keeps(0, 0, 0), 0);
        c.is("why", x.keeps(0, 0, 1), 2);
        x.take(5, UNMOVABLE, 0, 0);
        c.is("a place for neither", x.keeps(0, NONE, 0), 2);
        c.is("its own span has one", x.hole(24), 3);
        x.come(3, 1);
        c.is("zone MOVABLE has a rank for them", x.keeps(0, NONE, 0), 0);
        x.go(3);
        c.is("but is going", x.keeps(0, NONE, 0), 2);
        x.giveUp(3);
        c.is("on again", x.keeps(0, NONE, 0), 0);
        x.go(0);
        x.tick(4);
        c.is("the span itself may be going", x.keeps(0, NONE, 0), 0);
        x.take(5, MOVABLE, 4, 0);
        c.is("a place for both", x.keeps(0, NONE, 0), 0);
        x.take(5, MOVABLE, 4, 0);
        c.is("for neither", x.keeps(0, NONE, 0), 2);
    }

    private void keepsBesideSpanZero() {
        d.says(PIECE, "in other SPANS that are ON");
        SpansAway x = new SpansAway();
        x.home(1, 1);
        x.take(1, MOVABLE, 4, 0);
        c.is("span 0 has a place", x.keeps(1, NONE, 0), 0);
        x.take(0, UNMOVABLE, 4, 0);
        c.is("another one", x.keeps(1, NONE, 0), 0);
        x.take(0, UNMOVABLE, 0, 0);
        c.is("none of order 4", x.keeps(1, NONE, 0), 1);
    }

    private void keepsOnlyWhatLiesInIt() {
        d.says(PIECE, "BLOCKS that have FRAMES in it");
        SpansAway x = new SpansAway();
        x.set(0, 1);
        x.take(0, MOVABLE, 4, 0);
        x.go(0);
        x.tick(5);
        c.is("held in span 1", x.span(1, 5), 16);
        c.is("it has no frames there yet", x.keeps(1, NONE, 0), 0);
        x.take(1, UNMOVABLE, 0, 0);
        c.is("held frames are no place", x.keeps(0, NONE, 0), 1);
        c.is("why", x.keeps(0, 0, 1), 2);
        x.free(1);
        c.is("there is another place", x.keeps(0, NONE, 0), 0);
    }

    private void nothingStays() {
        d.says(PIECE, "IN THOUGHT (nothing of it stays)");
        Story busy = EdgesOfCalls.busy();
        Story thought = busy.then(x -> {
            for (int s = 0; s < 8; s++) {
                x.would(s, 0);
                x.would(s, 4);
                x.pressed(s);
            }
            x.easiest(0);
            x.easiest(1);
            x.givenBack();
            x.movable();
        });
        c.yes("all is as it was", thought.isLike(busy));
    }

    private void begins() {
        d.says(PIECE, "a SPAN that is ON begins to go now");
        SpansAway x = new SpansAway();
        c.is("on", x.would(0, 0), 1);
        c.is("off", x.would(2, 0), NONE);
        x.go(0);
        c.is("shutting", x.would(0, 0), NONE);
        x.tick(4);
        c.is("moving", x.would(0, 0), NONE);
        c.is("no other of zone NORMAL is on", x.would(1, 0), NONE);
        x.giveUp(0);
        c.is("on again", x.would(0, 0), 1);
    }

    /** Span 0 goes already and needs span 1's last place; in thought span 2 goes beside it. */
    private void othersGoOn() {
        d.says(PIECE, "the others go on, nobody does anything else");
        SpansAway x = new SpansAway();
        x.come(2, 0);
        x.set(0, 16);
        x.set(1, 1);
        x.home(5, 1);
        x.take(5, UNMOVABLE, 4, 0);
        x.take(0, MOVABLE, 4, 0);
        x.take(0, MOVABLE, 4, 0);
        x.take(0, MOVABLE, 4, 0);
        x.free(2);
        // span 0 and span 2 have 16 frames each, span 1 has room for one of them
        c.is("alone it would", x.would(2, 0), 1);
        c.is("copied", x.would(2, 2), 16);
        x.go(0);
        x.tick(2);
        c.is("span 0 takes the place first: off in 4 + 1", x.would(2, 1), 5);
        c.is("but it would not be off", x.would(2, 0), 0);
        c.is("split", x.would(2, 3), 15);
        c.is("copied by span 0", x.would(2, 2), 16);
        c.is("span 0 is as it was", x.span(0, 6), 2);
    }

    /**
     * Span 0 goes with a rate of 1: block 0 at its first frame was passed over, block 1 (order 4) is on its way and has
     * one value left at tick 19; block 0 is pinned no more, but the pass is behind it.
     */
    private static SpansAway passIsBehind() {
        SpansAway x = new SpansAway();
        x.come(2, 0);
        x.set(0, 1);
        x.set(3, 20);
        x.take(0, MOVABLE, 0, 5);
        x.pin(3, 0);
        x.take(0, MOVABLE, 4, 100);
        x.go(0);
        x.tick(19);
        x.unpin(3, 0);
        return x;
    }

    private void othersGoOnWhereTheyAre() {
        d.says(PIECE, "the others go on");
        SpansAway x = passIsBehind();
        c.is("copied before", x.count(3), 15);
        c.is("in thought the last value is copied, and no more in five ticks", x.would(1, 2), 1);
        c.is("in", x.would(1, 1), 5);
        c.is("it would be off", x.would(1, 0), 1);
        x.tick(1);
        c.is("the pass is over", x.span(0, 7), 2);
        c.is("it pauses", x.span(0, 8), 20);
    }

    private void ticksOfWould() {
        d.says(PIECE, "WOULD: until it is OFF, or FAILED");
        for (int at : new int[] {0, 8, 16, 24}) {
            SpansAway x = new SpansAway();
            for (int b = 0; b <= at / 8; b++) {
                x.take(0, b == at / 8 ? UNMOVABLE : CACHE, 3, 0);
            }
            c.is("unmovable at " + at + ": it fails in", x.would(0, 1), at / 8 + 1);
            c.is("not off", x.would(0, 0), 0);
            c.is("nothing is dropped", x.would(0, 4), 0);
        }
        SpansAway y = new SpansAway();
        c.is("empty: off in", y.would(0, 1), 5);
        y.set(0, 1);
        y.take(0, MOVABLE, 4, 0);
        y.take(0, MOVABLE, 4, 0);
        c.is("full, a frame each tick: off in", y.would(0, 1), 36);
        y.set(0, 16);
        c.is("16 frames each tick: off in", y.would(0, 1), 6);
    }

    private void longestWould() {
        d.says(PIECE, "(500 TICKS at most)");
        SpansAway x = new SpansAway();
        x.set(0, 1);
        x.set(1, 9);
        x.set(3, 20);
        x.take(0, MOVABLE, 0, 0);
        x.pin(0, 0);
        for (int order = 0; order <= 4; order++) {
            x.take(0, MOVABLE, order, 0);
        }
        c.is("nine passes, eight pauses, 31 frames: the longest way is far below", x.would(0, 1), 4 + 31 + 8 * 21);
        c.is("it fails", x.would(0, 0), 0);
    }

    private void wouldAtTheLastTick() {
        d.says(PIECE, "a SPAN that is ON begins to go now");
        SpansAway x = new SpansAway();
        for (int k = 0; k < 166; k++) {
            x.tick(60);
        }
        x.tick(39);
        c.is("the last tick", x.look(4), 9999);
        c.is("in thought", x.would(0, 1), 5);
        c.is("in thought", x.easiest(0), 0);
        c.is("in thought", x.givenBack(), 1);
    }

    private void easiestOfSeveral() {
        d.says(PIECE, "the one in the fewest TICKS, of several the least");
        SpansAway x = new SpansAway();
        x.come(2, 0);
        x.come(3, 0);
        c.is("four alike", x.easiest(0), 0);
        x.take(0, CACHE, 0, 0);
        c.is("a cache takes no time", x.easiest(0), 0);
        x.take(0, MOVABLE, 4, 0);
        c.is("the least of the others", x.easiest(0), 1);
        x.go(1);
        c.is("one that is going is none", x.easiest(0), 2);
        c.is("in", x.easiest(1), 5);
        SpansAway y = new SpansAway();
        y.home(1, 1);
        y.take(0, MOVABLE, 4, 0);
        y.take(1, MOVABLE, 3, 0);
        c.is("fewer ticks ahead of the lesser number", y.easiest(0), 1);
        c.is("in", y.easiest(1), 6);
    }

    private void easiestNone() {
        d.says(PIECE, "EASIEST: of SPANS that would be OFF");
        SpansAway x = new SpansAway();
        x.home(1, 1);
        x.take(0, MOVABLE, 4, 0);
        x.take(1, UNMOVABLE, 4, 0);
        x.take(0, MOVABLE, 0, 0);
        x.pin(3, 1);
        x.pin(3, 0);
        c.is("one fails by a pin, one by its kind", x.easiest(0), NONE);
        c.is("in", x.easiest(1), NONE);
        x.unpin(3, 0);
        x.come(3, 1);
        c.is("an empty one", x.easiest(0), 3);
        SpansAway y = new SpansAway();
        y.go(0);
        c.is("the only one that is on can't go", y.easiest(0), NONE);
    }

    private void givenBackAllButOne() {
        d.says(PIECE, "how many SPANS would be OFF, each time EASIEST, until there is none");
        SpansAway x = new SpansAway();
        c.is("one of two", x.givenBack(), 1);
        x.byTurns(6);
        c.is("seven of eight", x.givenBack(), 7);
        for (int b = 0; b < 16; b++) {
            x.take(0, MOVABLE, 4, b);
        }
        c.is("full: none", x.givenBack(), 0);
        x.free(3);
        c.is("half a span is free: none", x.givenBack(), 0);
        x.free(15);
        c.is("a span's frames are free: one", x.givenBack(), 1);
    }

    private void givenBackNone() {
        d.says(PIECE, "until there is none");
        SpansAway x = new SpansAway();
        x.go(0);
        c.is("the only one that is on can't go", x.givenBack(), 0);
        x.giveUp(0);
        x.home(1, 1);
        x.take(0, UNMOVABLE, 0, 0);
        x.take(1, UNMOVABLE, 0, 0);
        c.is("both would fail", x.givenBack(), 0);
        x.come(2, 1);
        c.is("the third would not", x.givenBack(), 1);
    }

    /** Span 2 is going with a pinned block: if it fails in time, span 1 may go behind span 0. */
    private void givenBackTicksGone() {
        d.says(PIECE, "(the TICKS gone by each time)");
        for (int tries = 1; tries <= 2; tries++) {
            SpansAway x = new SpansAway();
            x.come(2, 0);
            x.set(1, tries);
            x.set(3, 20);
            x.take(0, MOVABLE, 4, 0);
            x.take(0, MOVABLE, 4, 0);
            x.take(0, MOVABLE, 4, 0);
            x.free(0);
            x.free(1);
            x.pin(4, 2);
            c.is("it lies in span 2", x.block(2, 0), 64);
            x.go(2);
            c.is("tries " + tries, x.givenBack(), tries == 1 ? 2 : 1);
        }
    }

    private void looseEdges() {
        d.says(PIECE, "FREE FRAMES of its SPANS that are in no PLACE of that ORDER");
        SpansAway x = new SpansAway();
        for (int order = 0; order <= 5; order++) {
            c.is("all free, order " + order, x.loose(0, order), 0);
            c.is("a zone without spans, order " + order, x.loose(1, order), 0);
        }
        x.take(0, UNMOVABLE, 0, 0);
        int[] due = {0, 1, 3, 7, 15, 31};
        for (int order = 0; order <= 5; order++) {
            c.is("one taken, order " + order, x.loose(0, order), due[order]);
        }
        for (int b = 0; b < 31; b++) {
            x.take(0, UNMOVABLE, 0, 0);
        }
        x.go(1);
        x.tick(4);
        for (int order = 0; order <= 5; order++) {
            c.is("none free, order " + order, x.loose(0, order), 0);
        }
    }

    private void logOfSixty() {
        d.says(PIECE, "THE LOG (60 lines, the latest)");
        SpansAway x = new SpansAway();
        for (int k = 0; k < 30; k++) {
            x.go(k % 2);
            x.giveUp(k % 2);
        }
        c.is("all that came", x.look(13), 60);
        c.line(x, 59, 0, 0, 0);
        c.is("log(60, 0)", x.log(60, 0), NONE);
        x.come(7, 1);
        c.is("all that came", x.look(13), 61);
        c.line(x, 0, 3, 7, 1);
        c.line(x, 59, 2, 0, 3);
        c.is("log(60, 0)", x.log(60, 0), NONE);
        for (int k = 0; k < 60; k++) {
            x.go(1);
            x.giveUp(1);
        }
        c.is("all that came", x.look(13), 181);
        c.line(x, 0, 2, 1, 3);
        c.line(x, 59, 0, 1, 1);
    }

    /** Span 1 has one frame free; a pinned block stays in span 0. */
    private void logOfEach() {
        d.says(PIECE, "TICK, what, a number, another one");
        SpansAway x = new SpansAway();
        x.tick(1);
        x.come(2, 0);
        x.take(3, MOVABLE, 4, 0);
        x.take(3, MOVABLE, 4, 0);
        x.take(3, MOVABLE, 2, 0);
        x.take(3, CACHE, 0, 0);
        x.free(0);
        x.free(1);
        x.set(0, 2);
        x.tick(1);
        x.go(2);
        x.tick(5);
        x.read(4, 2, 0);
        x.tick(1);
        int[][] due = {{8, 1, 2, 1}, {8, 6, 3, 68}, {8, 8, 4, 2}, {8, 4, 2, 0}, {7, 7, 4, 2}, {2, 0, 2, 0}, {1, 3, 2, 0}};
        for (int i = 0; i < due.length; i++) {
            for (int w = 0; w < 4; w++) {
                c.is("log(" + i + ", " + w + ")", x.log(i, w), due[i][w]);
            }
        }
        x.pin(1, 2);
        x.set(1, 1);
        x.go(0);
        x.tick(5);
        c.is("tick of its failing", x.log(0, 0), 13);
        c.line(x, 0, 2, 0, 1);
        c.line(x, 1, 0, 0, 0);
        c.is("lines", x.look(13), 9);
    }

    private void logOrder() {
        d.says(PIECE, "4 ahead of what THE LINE does, 2 behind all else of it");
        SpansAway x = new SpansAway();
        x.set(0, 1);
        x.take(0, MOVABLE, 1, 10);
        x.take(0, MOVABLE, 1, 20);
        x.go(0);
        x.tick(5);
        x.pin(3, 0);
        x.read(2, 0, 0);
        x.tick(1);
        c.line(x, 2, 4, 0, 32);
        c.line(x, 1, 8, 3, 0);
        c.line(x, 0, 8, 2, 0);
        x.read(5, 1, 0);
        x.giveUp(0);
        c.line(x, 2, 7, 5, 1);
        c.line(x, 1, 8, 5, 1);
        c.line(x, 0, 2, 0, 3);
    }

    private void logOfAllSixty() {
        d.says(PIECE, "60 lines, the latest");
        SpansAway x = new SpansAway();
        for (int k = 0; k < 50; k++) {
            x.tick(1);
            x.go(k % 2);
            x.giveUp(k % 2);
        }
        for (int i = 0; i < 60; i++) {
            int line = 99 - i;
            int span = line / 2 % 2;
            c.is("tick of line " + i, x.log(i, 0), line / 2 + 1);
            if (line % 2 == 0) {
                c.line(x, i, 0, span, span);
            } else {
                c.line(x, i, 2, span, 3);
            }
        }
        c.is("log(60, 0)", x.log(60, 0), NONE);
    }

    private void imageAgain() {
        d.says(PIECE, "gone back to it may be more than once");
        Story busy = EdgesOfCalls.busy();
        Story kept = busy.then(x -> x.image(true));
        Story back = kept;
        for (int k = 0; k < 3; k++) {
            back = back.then(x -> {
                x.tick(9);
                x.free(2);
                x.set(0, 16);
                x.home(4, 1);
                x.take(1, MOVABLE, 3, 4);
                x.image(false);
            });
            c.yes("as it was, time " + k, back.isLike(kept));
        }
        c.yes("the image itself changes nothing", kept.isLike(busy));
        Story twice = busy.then(x -> x.image(true)).then(x -> x.tick(1));
        Story anew = twice.then(x -> x.image(true)).then(x -> {
            x.tick(30);
            x.image(false);
        });
        c.yes("the later image", anew.isLike(twice));
    }

    private void imageAll() {
        d.says(PIECE, "THE IMAGE: all that is and was told, as it was when it was taken");
        SpansAway x = new SpansAway();
        x.image(true);
        for (int w = 0; w < 4; w++) {
            x.set(w, 1);
        }
        x.home(5, 1);
        x.come(6, 1);
        x.take(5, MOVABLE, 0, NONE);
        x.read(5, 0, 0);
        x.pin(5, 0);
        x.go(6);
        x.tick(7);
        x.image(false);
        int[] look = {4, 3, 150, 2, 0, 0, 2, 64, 0, 0, 0, 0, 0, 0, 0};
        for (int w = 0; w < look.length; w++) {
            c.is("look(" + w + ")", x.look(w), look[w]);
        }
        int[] task = {0, 0, NONE, 0, 0, 0};
        for (int w = 0; w < task.length; w++) {
            c.is("task(5, " + w + ")", x.task(5, w), task[w]);
        }
        for (int w = 0; w < 11; w++) {
            c.is("count(" + w + ")", x.count(w), 0);
            c.is("span(6, " + w + ")", x.span(6, w), w == 1 || w > 8 ? NONE : 0);
        }
        c.is("log(0, 0)", x.log(0, 0), NONE);
        x.take(0, MOVABLE, 0, 0);
        c.is("USED begins as it was", x.block(0, 7), 1);
    }

    /** Between, the same tasks wait again for the same block, in another order and for other things. */
    private void imageOfWishes() {
        d.says(PIECE, "as it was when it was taken");
        Story kept = EdgesOfCalls.busy().then(x -> {
            x.write(1, 0, 2, 55);
            x.image(true);
        });
        Story back = kept.then(x -> {
            x.giveUp(3);
            x.unpin(5, 0);
            x.go(3);
            x.tick(5);
            c.is("waits", x.write(1, 0, 3, 66), 1);
            c.is("waits", x.read(5, 0, 0), 1);
            c.is("waits", x.pin(2, 0), 1);
            x.image(false);
        });
        c.yes("they want what they wanted", back.isLike(kept));
        SpansAway x = back.told();
        x.tick(2);
        c.line(x, 4, 4, 0, 4);
        c.line(x, 3, 8, 2, 0);
        c.line(x, 2, 8, 5, 0);
        c.line(x, 1, 8, 1, 0);
        c.line(x, 0, 1, 3, 1);
    }

    private void imageOfTheLog() {
        d.says(PIECE, "THE IMAGE: all that is and was told");
        Story kept = EdgesOfCalls.busy().then(x -> x.image(true));
        Story back = kept.then(x -> {
            for (int k = 0; k < 40; k++) {
                x.go(2);
                x.giveUp(2);
            }
            x.image(false);
        });
        c.yes("its lines are there again", back.isLike(kept));
    }

    private void imageOfThePass() {
        d.says(PIECE, "as it was when it was taken");
        SpansAway x = passIsBehind();
        x.image(true);
        x.giveUp(0);
        x.tick(3);
        x.image(false);
        x.tick(1);
        c.is("block 1 has arrived", x.count(2), 1);
        c.is("the pass is over", x.span(0, 7), 2);
        c.is("block 0 was behind it", x.block(0, 0), 0);
    }

    private void constant() {
        d.says(PIECE, "`NONE = -1`: None");
        c.is("NONE", SpansAway.NONE, -1);
        c.is("NONE - 1", new SpansAway().take(-1, 0, 0, 0), -2);
    }
}
