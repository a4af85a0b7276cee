/** A case for each sentence of "Terms". Answers are worked out by hand from the document. */
final class EdgesOfTerms {
    private static final int NONE = SpansAway.NONE;
    private static final int MOVABLE = 0;
    private static final int UNMOVABLE = 1;
    private static final int CACHE = 2;

    private final Check c;
    private final Document d;

    EdgesOfTerms(Check c, Document d) {
        this.c = c;
        this.d = d;
    }

    void all() {
        spans();
        frames();
        nodes();
        zones();
        atFirst();
        parts();
        apart();
        valueOfNone();
        tasks();
        told();
        tickRange();
        blockNumbers();
        orders();
        pins();
        used();
        leastNumber();
        placeFromMultiple();
        placeOfBothHalves();
        holeAtMost();
        rankOfMovable();
        rankOfOthers();
        rankFirst();
        holeThenFrame();
        holeBehindAGreaterOne();
    }

    private void spans() {
        d.says("Terms", "SPANS 0 .. 7, of 32 FRAMES each");
        SpansAway x = new SpansAway();
        c.is("byTurns(6)", x.byTurns(6), 6);
        c.is("span(-1, 2)", x.span(-1, 2), NONE);
        c.is("span(0, 2)", x.span(0, 2), 32);
        c.is("span(7, 2)", x.span(7, 2), 32);
        c.is("span(8, 2)", x.span(8, 2), NONE);
        c.is("all free frames", x.look(7), 256);
    }

    private void frames() {
        d.says("Terms", "FRAME f is the one of number f modulo 32 of SPAN f by 32");
        SpansAway x = new SpansAway();
        x.come(7, 0);
        int[][] due = {{-1, NONE}, {0, 1}, {63, 1}, {64, 0}, {223, 0}, {224, 1}, {255, 1}, {256, NONE}};
        for (int[] f : due) {
            c.is("frame(" + f[0] + ", 0)", x.frame(f[0], 0), f[1]);
        }
        x.home(0, 1);
        for (int first : new int[] {32, 48, 224, 240}) {
            c.is("half a span", x.block(x.take(0, UNMOVABLE, 4, 0), 0), first);
        }
        c.is("the last of span 0", x.frame(31, 1), NONE);
        c.is("the first of span 1", x.frame(32, 1), 0);
        c.is("the last of span 1", x.frame(63, 1), 1);
        c.is("the last of all", x.frame(255, 1), 3);
        c.is("span 7 is full", x.span(7, 4), 32);
    }

    private void nodes() {
        d.says("Terms", "SPAN s is of NODE s modulo 2");
        SpansAway x = new SpansAway();
        x.byTurns(6);
        for (int s = 0; s < 8; s++) {
            c.yes("go(" + s + ")", x.go(s));
            c.is("its node in the log", x.log(0, 3), s % 2);
            x.giveUp(s);
        }
    }

    private void zones() {
        d.says("Terms", "one that isn't OFF is of a ZONE: 0 NORMAL, 1 MOVABLE");
        SpansAway x = new SpansAway();
        c.is("off", x.span(2, 1), NONE);
        x.come(2, 1);
        c.is("on", x.span(2, 1), 1);
        x.go(2);
        c.is("shutting", x.span(2, 1), 1);
        x.tick(4);
        c.is("state", x.span(2, 0), 3);
        c.is("moving", x.span(2, 1), 1);
        x.tick(1);
        c.is("state", x.span(2, 0), 0);
        c.is("off again", x.span(2, 1), NONE);
        x.come(2, 0);
        c.is("of the other zone now", x.span(2, 1), 0);
    }

    private void atFirst() {
        d.says("Terms", "At first 0 and 1 are ON and NORMAL, all others OFF");
        SpansAway x = new SpansAway();
        for (int s = 0; s < 8; s++) {
            c.is("state of " + s, x.span(s, 0), s < 2 ? 1 : 0);
            c.is("zone of " + s, x.span(s, 1), s < 2 ? 0 : NONE);
        }
    }

    private void parts() {
        d.says("Terms", "Four PARTS of a SPAN: 8 FRAMES each, from the first on; a PART can be SHUT");
        SpansAway x = new SpansAway();
        x.go(0);
        c.is("none is shut yet", x.span(0, 6), 0);
        for (int part = 1; part <= 4; part++) {
            x.tick(1);
            c.is("parts", x.span(0, 6), part);
            c.is("frames apart", x.span(0, 3), 8 * part);
            c.is("the last of the part", x.frame(8 * part - 1, 0), 2);
            c.is("the frame behind it", x.frame(8 * part, 0), 1);
        }
    }

    private void apart() {
        d.says("Terms", "2 APART (free, but nobody can take it)");
        SpansAway x = new SpansAway();
        x.home(5, 1);
        x.take(5, UNMOVABLE, 4, 0);
        x.take(5, UNMOVABLE, 4, 0);
        x.go(0);
        x.tick(3);
        c.is("the last part is open", x.block(x.take(0, MOVABLE, 3, 0), 0), 24);
        c.is("frames apart", x.span(0, 3), 24);
        c.is("nobody can take them", x.take(0, MOVABLE, 0, 0), NONE);
        c.is("nor are they a place", x.place(0, MOVABLE, 0), NONE);
        c.is("nor a hole", x.hole(0), NONE);
        c.is("nor free", x.look(7), 0);
    }

    private void valueOfNone() {
        d.says("Terms", "0, if it is not TAKEN, nor HELD");
        SpansAway x = new SpansAway();
        x.set(0, 1);
        x.take(0, MOVABLE, 1, 10);
        c.is("free", x.frame(2, 2), 0);
        x.go(0);
        x.tick(5);
        c.is("held, and copied", x.frame(32, 2), 10);
        c.is("held", x.frame(33, 0), 4);
        c.is("held, not copied yet", x.frame(33, 2), 0);
        c.is("apart", x.frame(2, 2), 0);
        x.tick(1);
        c.is("off", x.frame(0, 0), 0);
        c.is("off", x.frame(0, 2), 0);
        c.is("arrived", x.frame(33, 2), 11);
        x.free(0);
        c.is("freed", x.frame(32, 2), 0);
        c.is("freed", x.frame(33, 2), 0);
    }

    private void tasks() {
        d.says("Terms", "TASKS 0 .. 5, each with a HOME (a NODE, 0 at first)");
        SpansAway x = new SpansAway();
        c.is("task(-1, 0)", x.task(-1, 0), NONE);
        for (int t = 0; t < 6; t++) {
            c.is("task(" + t + ", 0)", x.task(t, 0), 0);
        }
        c.is("task(6, 0)", x.task(6, 0), NONE);
    }

    private void told() {
        d.says("Terms", "Can be told: 0 RATE 1 .. 16 (4 at first), 1 TRIES 1 .. 9 (3), 2 RATIO 0 .. 400 (150), 3 PAUSE 1 .. 20 (2)");
        int[] first = {4, 3, 150, 2};
        int[] least = {1, 1, 0, 1};
        int[] most = {16, 9, 400, 20};
        for (int w = 0; w < 4; w++) {
            SpansAway x = new SpansAway();
            c.is("at first", x.look(w), first[w]);
            c.no("below the least of " + w, x.set(w, least[w] - 1));
            c.no("above the most of " + w, x.set(w, most[w] + 1));
            c.is("as before", x.look(w), first[w]);
            c.yes("the least of " + w, x.set(w, least[w]));
            c.is("the least", x.look(w), least[w]);
            c.yes("the most of " + w, x.set(w, most[w]));
            c.is("the most", x.look(w), most[w]);
            c.no("above the most of " + w, x.set(w, most[w] + 1));
            c.is("as before", x.look(w), most[w]);
        }
    }

    private void tickRange() {
        d.says("Terms", "TICK 0 .. 9999 (0 at first)");
        SpansAway x = new SpansAway();
        c.is("at first", x.look(4), 0);
        for (int k = 1; k <= 166; k++) {
            x.tick(60);
        }
        c.is("166 times 60", x.look(4), 9960);
        c.is("tick(38)", x.tick(38), 9998);
        c.is("tick(2)", x.tick(2), NONE);
        c.is("tick(1)", x.tick(1), 9999);
        c.is("tick(1)", x.tick(1), NONE);
        c.is("the last", x.look(4), 9999);
    }

    private void blockNumbers() {
        d.says("Terms", "BLOCKS 0 .. 95");
        SpansAway x = new SpansAway();
        x.come(2, 0);
        x.come(4, 0);
        for (int b = 0; b < 96; b++) {
            c.is("a number", x.take(0, CACHE, 0, 0), b);
        }
        c.is("full", x.take(0, CACHE, 0, 0), NONE);
        c.is("block(95, 1)", x.block(95, 1), 0);
        c.is("block(96, 1)", x.block(96, 1), NONE);
        c.is("block(-1, 1)", x.block(-1, 1), NONE);
        c.is("blocks", x.look(5), 96);
        c.yes("free(95)", x.free(95));
        c.is("the last number again", x.take(0, UNMOVABLE, 0, 0), 95);
    }

    private void orders() {
        d.says("Terms", "an ORDER 0 .. 4: 2 to the ORDER FRAMES side by side, from a multiple of that on");
        SpansAway x = new SpansAway();
        c.is("order 0", x.block(x.take(0, MOVABLE, 0, 0), 0), 0);
        for (int order = 1; order <= 4; order++) {
            int block = x.take(0, MOVABLE, order, 0);
            int first = 1 << order;
            c.is("order " + order, x.block(block, 0), first);
            c.is("its last frame", x.frame(2 * first - 1, 1), block);
            c.is("the frame ahead of it", x.frame(first - 1, 1) == block ? 1 : 0, 0);
        }
        c.is("one frame is left in the span", x.span(0, 2), 1);
        c.is("the one left", x.block(x.take(0, MOVABLE, 0, 0), 0), 1);
        c.is("order 5", x.take(0, MOVABLE, 5, 0), NONE - 1);
        c.is("order -1", x.take(0, MOVABLE, -1, 0), NONE - 1);
    }

    private void pins() {
        d.says("Terms", "PINS (TASKS, each once)");
        SpansAway x = new SpansAway();
        x.take(0, MOVABLE, 0, 0);
        for (int t = 0; t < 6; t++) {
            c.is("pin(" + t + ", 0)", x.pin(t, 0), 0);
            c.is("pin(" + t + ", 0) again", x.pin(t, 0), NONE);
            c.is("the set", x.block(0, 4), (2 << t) - 1);
            c.is("pins of the task", x.task(t, 5), 1);
        }
        c.yes("unpin(5, 0)", x.unpin(5, 0));
        c.is("it goes at once", x.block(0, 4), 31);
    }

    private void used() {
        d.says("Terms", "USED: a number that grows by 1 each time any BLOCK comes into being, or is read, written");
        SpansAway x = new SpansAway();
        x.take(0, MOVABLE, 0, 0);
        x.take(0, MOVABLE, 0, 0);
        c.is("the first", x.block(0, 7), 1);
        c.is("the second", x.block(1, 7), 2);
        x.read(1, 0, 0);
        c.is("read", x.block(0, 7), 3);
        x.write(1, 1, 0, 0);
        c.is("written", x.block(1, 7), 4);
        x.read(1, 0, 1);
        x.write(1, 2, 0, 0);
        x.pin(1, 0);
        x.unpin(1, 0);
        c.is("refused, or pinned: as before", x.block(0, 7), 3);
        x.free(0);
        x.press(0);
        c.is("block 1 went ahead", x.block(1, 0), 0);
        c.is("gone at once: as before", x.block(1, 7), 4);
        x.take(0, MOVABLE, 0, 0);
        c.is("a new one", x.block(0, 7), 5);
        x.take(0, CACHE, 9, 0);
        x.take(0, UNMOVABLE, 4, 0);
        x.take(0, UNMOVABLE, 4, 0);
        x.take(0, UNMOVABLE, 4, 0);
        c.is("the place was full", x.take(0, UNMOVABLE, 4, 0), NONE);
        x.read(0, 0, 0);
        c.is("what had none is not counted", x.block(0, 7), 9);
    }

    private void leastNumber() {
        d.says("Terms", "A new BLOCK has the least number that none has");
        SpansAway x = new SpansAway();
        for (int b = 0; b < 4; b++) {
            x.take(0, CACHE, 0, 0);
        }
        x.free(2);
        x.free(0);
        c.is("the least", x.take(0, CACHE, 0, 0), 0);
        c.is("the next", x.take(0, CACHE, 0, 0), 2);
        c.is("behind all", x.take(0, CACHE, 0, 0), 4);
    }

    /** Span 0 has frames 1 and 2 free, side by side but not from a multiple of 2 on; all else is taken. */
    private void placeFromMultiple() {
        d.says("Terms", "A PLACE of an ORDER: so many FREE FRAMES side by side from a multiple of that on");
        SpansAway x = new SpansAway();
        for (int b = 0; b < 4; b++) {
            x.take(0, UNMOVABLE, 0, 0);
        }
        x.free(1);
        x.free(2);
        c.is("the first place of order 1", x.place(0, MOVABLE, 1), 4);
        for (int order = 2; order <= 4; order++) {
            x.take(0, UNMOVABLE, order, 0);
        }
        x.take(0, UNMOVABLE, 4, 0);
        x.take(0, UNMOVABLE, 4, 0);
        c.is("free", x.look(7), 2);
        c.is("no place of order 1", x.place(0, MOVABLE, 1), NONE);
        c.is("none to take", x.take(0, MOVABLE, 1, 0), NONE);
        c.is("the greatest order", x.zone(0, 2), 0);
        c.is("both are loose", x.loose(0, 1), 2);
        c.is("the first place of order 0", x.place(0, MOVABLE, 0), 1);
    }

    /** The first half of a place is free, the second is taken, and all else with it. */
    private void placeOfBothHalves() {
        d.says("Terms", "so many FREE FRAMES side by side from a multiple of that on");
        for (int order = 1; order <= 5; order++) {
            SpansAway x = new SpansAway();
            x.take(0, UNMOVABLE, order - 1, 0);
            x.take(0, UNMOVABLE, order - 1, 0);
            for (int wider = order; wider <= 4; wider++) {
                x.take(0, UNMOVABLE, wider, 0);
            }
            x.take(0, UNMOVABLE, 4, 0);
            x.take(0, UNMOVABLE, 4, 0);
            c.is("full", x.look(7), 0);
            x.free(0);
            c.is("the half is a place", x.place(0, MOVABLE, order - 1), 0);
            c.is("the greatest order", x.zone(0, 2), order - 1);
            c.is("hole", x.hole(0), order - 1);
            c.is("loose", x.loose(0, order), 1 << order - 1);
            c.is("pressed", x.pressed(0), order - 1);
            if (order <= 4) {
                c.is("no place of order " + order, x.place(0, MOVABLE, order), NONE);
                c.is("none to take", x.take(0, MOVABLE, order, 0), NONE);
            }
        }
    }

    private void holeAtMost() {
        d.says("Terms", "the greatest ORDER (5 at most) for which the FRAMES of that ORDER round it (from a multiple on) are all FREE");
        SpansAway x = new SpansAway();
        c.is("two spans side by side", x.hole(31), 5);
        c.is("two spans side by side", x.hole(32), 5);
        x.take(0, MOVABLE, 4, 0);
        c.is("the other half", x.hole(16), 4);
        c.is("the span behind it", x.hole(32), 5);
        x.take(0, MOVABLE, 0, 0);
        int[] due = {NONE, 0, 1, 1, 2, 2, 2, 2, 3, 3, 3, 3, 3, 3, 3, 3};
        for (int k = 0; k < due.length; k++) {
            c.is("hole(" + (16 + k) + ")", x.hole(16 + k), due[k]);
        }
    }

    private void rankOfMovable() {
        d.says("Terms", "MOVABLE: of ZONE MOVABLE 0 at HOME, 1 else; of ZONE NORMAL 2 at HOME, 3 else");
        int[][] due = {{64, 80, 96, 112, 0, 16, 32, 48, NONE}, {96, 112, 64, 80, 32, 48, 0, 16, NONE}};
        for (int node = 0; node < 2; node++) {
            SpansAway x = new SpansAway();
            x.come(2, 1);
            x.come(3, 1);
            x.home(4, node);
            for (int first : due[node]) {
                c.is("place, home " + node, x.place(4, MOVABLE, 4), first);
                x.take(4, MOVABLE, 4, 0);
            }
        }
    }

    private void rankOfOthers() {
        d.says("Terms", "Others: of ZONE NORMAL 0 at HOME, 1 else; of ZONE MOVABLE: none");
        int[][] due = {{0, 16, 32, 48, NONE}, {32, 48, 0, 16, NONE}};
        for (int kind = UNMOVABLE; kind <= CACHE; kind++) {
            for (int node = 0; node < 2; node++) {
                SpansAway x = new SpansAway();
                x.come(2, 1);
                x.come(3, 1);
                x.home(4, node);
                for (int first : due[node]) {
                    c.is("place, home " + node, x.place(4, kind, 4), first);
                    x.take(4, UNMOVABLE, 4, 0);
                }
                c.is("zone MOVABLE is empty", x.zone(1, 1), 64);
                c.is("but none for it", x.take(4, kind, 0, 0), NONE);
                c.is("and a place for others", x.place(4, MOVABLE, 4), node == 0 ? 64 : 96);
            }
        }
    }

    private void rankFirst() {
        d.says("Terms", "that with the least RANK, then the least HOLE");
        SpansAway x = new SpansAway();
        x.home(1, 1);
        x.take(1, UNMOVABLE, 0, 0);
        c.is("a hole of order 0 away", x.hole(33), 0);
        c.is("a hole of order 5 at home", x.place(0, UNMOVABLE, 0), 0);
        c.is("there it is home", x.place(1, UNMOVABLE, 0), 33);
    }

    /** Spans 0 and 2 are alike in rank: 16 .. 31 is free in span 0, all but 64 in span 2. */
    private void holeThenFrame() {
        d.says("Terms", "then the least HOLE, then the least FRAME");
        SpansAway x = new SpansAway();
        x.come(2, 0);
        x.take(0, UNMOVABLE, 4, 0);
        x.take(0, UNMOVABLE, 4, 0);
        x.take(0, UNMOVABLE, 0, 0);
        x.free(1);
        int[] due = {65, 66, 68, 72, 16};
        for (int order = 0; order <= 4; order++) {
            c.is("place of order " + order, x.place(0, CACHE, order), due[order]);
        }
        x.take(0, UNMOVABLE, 0, 0);
        c.is("holes of order 1, 2, 3, 4, 4", x.place(0, CACHE, 0), 66);
    }

    /** In one span a hole of an order lies behind one of the next order. */
    private void holeBehindAGreaterOne() {
        d.says("Terms", "then the least HOLE, then the least FRAME");
        for (int order = 0; order <= 3; order++) {
            SpansAway x = new SpansAway();
            x.take(0, UNMOVABLE, order + 1, 0);
            x.take(0, UNMOVABLE, order, 0);
            x.take(0, UNMOVABLE, order, 0);
            x.free(0);
            x.free(1);
            c.is("the greater hole", x.hole(0), order + 1);
            c.is("the lesser one", x.hole(2 << order), order);
            c.is("place of order " + order, x.place(0, CACHE, order), 2 << order);
            c.is("place of the next order", x.place(0, CACHE, order + 1), 0);
        }
    }
}
