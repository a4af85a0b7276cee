import java.util.Arrays;

/** Memory that is taken away while it is in use; ../shared/DOC.md says what each call answers. */
public final class SpansAway {
    public static final int NONE = -1;

    private static final int SPANS = 8;
    private static final int SPAN_FRAMES = 32;
    private static final int FRAMES = SPANS * SPAN_FRAMES;
    private static final int PARTS = 4;
    private static final int PART_FRAMES = 8;
    private static final int NODES = 2;
    private static final int ZONES = 2;
    private static final int TASKS = 6;
    private static final int BLOCKS = 96;
    private static final int BLOCK_ORDERS = 5;
    private static final int SPAN_ORDER = 5;
    private static final int LOG_LINES = 60;
    private static final int LAST_TICK = 9999;
    private static final int MOST_TICKS = 60;
    private static final int THOUGHT_TICKS = 500;

    private static final int OFF = 0;
    private static final int ON = 1;
    private static final int SHUTTING = 2;
    private static final int MOVING = 3;

    private static final int NORMAL_ZONE = 0;
    private static final int MOVABLE_ZONE = 1;
    private static final int BY_RATIO = 2;

    private static final int FRAME_OFF = 0;
    private static final int FRAME_FREE = 1;
    private static final int FRAME_APART = 2;
    private static final int FRAME_TAKEN = 3;
    private static final int FRAME_HELD = 4;

    private static final int KINDS = 3;
    private static final int MOVABLE = 0;
    private static final int UNMOVABLE = 1;
    private static final int CACHE = 2;

    private static final int TOLD = 4;
    private static final int RATE = 0;
    private static final int TRIES = 1;
    private static final int RATIO = 2;
    private static final int PAUSE = 3;
    private static final int[] LEAST_TOLD = {1, 1, 0, 1};
    private static final int[] MOST_TOLD = {16, 9, 400, 20};
    private static final int[] FIRST_TOLD = {4, 3, 150, 2};

    private static final int WHY_UNMOVABLE = 0;
    private static final int WHY_PINNED = 1;
    private static final int WHY_ELSE = 2;
    private static final int WHY_GIVEN_UP = 3;

    private static final int TO_READ = 0;
    private static final int TO_WRITE = 1;
    private static final int TO_PIN = 2;

    private static final int LOG_GOES = 0;
    private static final int LOG_OFF = 1;
    private static final int LOG_FAILED = 2;
    private static final int LOG_ON = 3;
    private static final int LOG_ARRIVED = 4;
    private static final int LOG_SPLIT = 5;
    private static final int LOG_DROPPED = 6;
    private static final int LOG_WAITS = 7;
    private static final int LOG_DID = 8;

    private static final int COUNTS = 11;
    private static final int COUNT_CAME = 0;
    private static final int COUNT_HAD_NONE = 1;
    private static final int COUNT_ARRIVED = 2;
    private static final int COUNT_COPIED = 3;
    private static final int COUNT_SPLIT = 4;
    private static final int COUNT_DROPPED = 5;
    private static final int COUNT_OFF = 6;
    private static final int COUNT_FAILED = 7;
    private static final int COUNT_WAITED = 8;
    private static final int COUNT_PASSES = 9;
    private static final int COUNT_AT_ONCE = 10;

    private final Going going = new Going();
    private final Memory now = going.memory;
    private final Memory kept = new Memory();
    private final Thought thought = new Thought();
    private boolean isKept = false;

    public SpansAway() {
        now.openFirst();
    }

    public boolean set(int what, int v) {
        if (what < 0 || what >= TOLD || v < LEAST_TOLD[what] || v > MOST_TOLD[what]) {
            return false;
        }
        now.told[what] = v;
        return true;
    }

    public boolean home(int task, int node) {
        if (!isTask(task) || !isNode(node)) {
            return false;
        }
        now.tasks.home[task] = node;
        return true;
    }

    public int take(int task, int kind, int order, int value) {
        if (!isTask(task) || !isKind(kind) || !isBlockOrder(order)) {
            return NONE - 1;
        }
        return now.bring(task, kind, order, value);
    }

    public boolean free(int block) {
        if (!now.blocks.has(block) || !now.blocks.isLoose(block)) {
            return false;
        }
        now.remove(block);
        return true;
    }

    public int read(int task, int block, int i) {
        return touch(task, block, TO_READ, i, 0);
    }

    public int write(int task, int block, int i, int value) {
        return touch(task, block, TO_WRITE, i, value);
    }

    public int pin(int task, int block) {
        if (hasPin(task, block)) {
            return NONE;
        }
        return touch(task, block, TO_PIN, 0, 0);
    }

    public boolean unpin(int task, int block) {
        if (!hasPin(task, block)) {
            return false;
        }
        now.blocks.pins[block] &= ~(1 << task);
        return true;
    }

    public int come(int span, int how) {
        if (!isSpan(span) || how < NORMAL_ZONE || how > BY_RATIO || now.spans.state[span] != OFF) {
            return NONE;
        }
        int zone = how == BY_RATIO ? now.zoneByRatio() : how;
        now.open(span, zone);
        return zone;
    }

    public int byTurns(int n) {
        if (n < 1 || n > SPANS) {
            return NONE;
        }
        int came = 0;
        for (int turn = 0; turn < n; turn++) {
            int span = now.spans.nextByTurns();
            if (span == NONE) {
                break;
            }
            now.open(span, now.zoneByRatio());
            came++;
        }
        return came;
    }

    public int press(int span) {
        if (!isSpan(span) || now.spans.state[span] != ON) {
            return NONE;
        }
        return now.pack(span);
    }

    public int gather(int task) {
        if (!isTask(task)) {
            return NONE;
        }
        return now.bringNearer(task);
    }

    public boolean go(int span) {
        if (!isSpan(span) || !now.spans.canGo(span)) {
            return false;
        }
        going.begin(span);
        return true;
    }

    public boolean giveUp(int span) {
        if (!isSpan(span) || !now.spans.isGoing(span)) {
            return false;
        }
        going.callOff(span);
        return true;
    }

    public int tick(int n) {
        if (n < 1 || n > MOST_TICKS || now.tick + n > LAST_TICK) {
            return NONE;
        }
        for (int k = 0; k < n; k++) {
            going.oneTick();
        }
        return now.tick;
    }

    public int frame(int frame, int what) {
        if (frame < 0 || frame >= FRAMES) {
            return NONE;
        }
        switch (what) {
            case 0:
                return now.frames.stateOf(frame);
            case 1:
                return now.frames.blockOf[frame];
            case 2:
                return now.frames.value[frame];
            default:
                return NONE;
        }
    }

    public int block(int block, int what) {
        Blocks blocks = now.blocks;
        if (!blocks.has(block)) {
            return NONE;
        }
        switch (what) {
            case 0:
                return blocks.first[block];
            case 1:
                return blocks.order[block];
            case 2:
                return blocks.kind[block];
            case 3:
                return blocks.owner[block];
            case 4:
                return blocks.pins[block];
            case 5:
                return blocks.target[block];
            case 6:
                return blocks.copied[block];
            case 7:
                return blocks.used[block];
            case 8:
                return now.tasks.lineOf(block);
            default:
                return NONE;
        }
    }

    public int span(int span, int what) {
        if (!isSpan(span)) {
            return NONE;
        }
        switch (what) {
            case 0:
                return now.spans.state[span];
            case 1:
                return now.spans.zone[span];
            case 2:
                return Integer.bitCount(now.frames.free[span]);
            case 3:
                return Integer.bitCount(now.frames.apart[span]);
            case 4:
                return Integer.bitCount(now.frames.taken[span]);
            case 5:
                return Integer.bitCount(now.frames.held[span]);
            case 6:
                return now.spans.shut[span];
            case 7:
                return now.spans.pass[span];
            case 8:
                return now.spans.pause[span];
            case 9:
                return now.spans.leaving[span];
            case 10:
                return now.spans.why[span];
            default:
                return NONE;
        }
    }

    public int task(int task, int what) {
        if (!isTask(task)) {
            return NONE;
        }
        switch (what) {
            case 0:
                return now.tasks.home[task];
            case 1:
                return now.tasks.waitsFor[task] == NONE ? 0 : 1;
            case 2:
                return now.tasks.waitsFor[task];
            case 3:
                return now.tasks.lastRead[task];
            case 4:
                return now.blocks.ownedBy(task);
            case 5:
                return now.blocks.pinnedBy(task);
            default:
                return NONE;
        }
    }

    public int zone(int zone, int what) {
        if (!isZone(zone)) {
            return NONE;
        }
        switch (what) {
            case 0:
                return now.spans.inZone(zone);
            case 1:
                return now.freeInZone(zone);
            case 2:
                return now.widestInZone(zone);
            default:
                return NONE;
        }
    }

    public int loose(int zone, int order) {
        if (!isZone(zone) || order < 0 || order > SPAN_ORDER) {
            return NONE;
        }
        int loose = 0;
        for (int span = 0; span < SPANS; span++) {
            if (now.spans.zone[span] == zone) {
                int free = now.frames.free[span];
                int inPlaces = Integer.bitCount(Rows.starts(free, order)) << order;
                loose += Integer.bitCount(free) - inPlaces;
            }
        }
        return loose;
    }

    public int place(int task, int kind, int order) {
        if (!isTask(task) || !isKind(kind) || !isBlockOrder(order)) {
            return NONE;
        }
        return now.bestPlace(task, kind, order, false);
    }

    public int hole(int frame) {
        if (frame < 0 || frame >= FRAMES) {
            return NONE;
        }
        return Rows.holeRound(now.frames.free[frame / SPAN_FRAMES], frame % SPAN_FRAMES);
    }

    public int keeps(int span, int i, int what) {
        if (!isSpan(span) || what < 0 || what > 3) {
            return NONE;
        }
        if (i == NONE) {
            return now.keepers(span);
        }
        int block = now.keeper(span, i);
        if (block == NONE) {
            return NONE;
        }
        switch (what) {
            case 0:
                return block;
            case 1:
                return now.whyKeeps(span, block);
            case 2:
                return now.blocks.owner[block];
            default:
                return now.blocks.pins[block];
        }
    }

    public int holders(int span) {
        if (!isSpan(span)) {
            return NONE;
        }
        return now.holdersOf(span);
    }

    public int pressed(int span) {
        if (!isSpan(span) || now.spans.state[span] != ON) {
            return NONE;
        }
        return thought.widestPacked(now, span);
    }

    public int at(int task, int node) {
        if (!isTask(task) || !isNode(node)) {
            return NONE;
        }
        return now.blocks.framesAt(task, node);
    }

    public int movable() {
        int normal = now.spans.inZone(NORMAL_ZONE);
        int movable = now.spans.inZone(MOVABLE_ZONE);
        int off = SPANS - normal - movable;
        int could = 0;
        while (could < off && now.staysInRatio(movable + could + 1, normal)) {
            could++;
        }
        return could;
    }

    public int would(int span, int what) {
        if (what < 0 || what > 4 || !isSpan(span) || !now.spans.canGo(span)) {
            return NONE;
        }
        boolean off = thought.tryOut(now, span);
        switch (what) {
            case 0:
                return off ? 1 : 0;
            case 1:
                return thought.ticks;
            case 2:
                return thought.grownSince(now, COUNT_COPIED);
            case 3:
                return thought.grownSince(now, COUNT_SPLIT);
            default:
                return thought.grownSince(now, COUNT_DROPPED);
        }
    }

    public int easiest(int what) {
        if (what < 0 || what > 1) {
            return NONE;
        }
        int span = thought.findEasiest(now);
        return what == 0 || span == NONE ? span : thought.fewest;
    }

    public int givenBack() {
        Memory then = thought.then;
        then.copyFrom(now);
        for (int gone = 0; gone < SPANS; gone++) {
            int span = thought.findEasiest(then);
            if (span == NONE) {
                return gone;
            }
            thought.tryOut(then, span);
            then.copyFrom(thought.trial);
        }
        return SPANS;
    }

    public int log(int i, int what) {
        return now.log.cell(i, what);
    }

    public int count(int what) {
        return what < 0 || what >= COUNTS ? NONE : now.counts[what];
    }

    public boolean image(boolean taken) {
        if (taken) {
            kept.copyFrom(now);
            kept.log.copyFrom(now.log);
            isKept = true;
        } else if (isKept) {
            now.copyFrom(kept);
            now.log.copyFrom(kept.log);
        }
        return isKept;
    }

    public int look(int what) {
        if (what >= 0 && what < TOLD) {
            return now.told[what];
        }
        switch (what) {
            case 4:
                return now.tick;
            case 5:
                return now.blocks.howMany();
            case 6:
                return now.spans.inZone(NORMAL_ZONE) + now.spans.inZone(MOVABLE_ZONE);
            case 7:
                return Rows.bitsIn(now.frames.free);
            case 8:
                return Rows.bitsIn(now.frames.apart);
            case 9:
                return Rows.bitsIn(now.frames.taken);
            case 10:
                return Rows.bitsIn(now.frames.held);
            case 11:
                return now.tasks.waitingSet();
            case 12:
                return now.spans.goingSet();
            case 13:
                return now.log.lines;
            case 14:
                return movableByNormal();
            default:
                return NONE;
        }
    }

    private int movableByNormal() {
        int normal = now.spans.inZone(NORMAL_ZONE);
        return normal == 0 ? NONE : 100 * now.spans.inZone(MOVABLE_ZONE) / normal;
    }

    private int touch(int task, int block, int wish, int i, int value) {
        if (!isTask(task) || !now.blocks.has(block) || now.tasks.waitsFor[task] != NONE) {
            return NONE;
        }
        if (i < 0 || i >= now.blocks.size(block)) {
            return NONE;
        }
        now.tasks.wants(task, wish, i, value);
        return now.doOrWait(task, block);
    }

    private boolean hasPin(int task, int block) {
        return isTask(task) && now.blocks.has(block) && (now.blocks.pins[block] >> task & 1) != 0;
    }

    private static boolean isSpan(int span) {
        return span >= 0 && span < SPANS;
    }

    private static boolean isTask(int task) {
        return task >= 0 && task < TASKS;
    }

    private static boolean isNode(int node) {
        return node >= 0 && node < NODES;
    }

    private static boolean isZone(int zone) {
        return zone >= 0 && zone < ZONES;
    }

    private static boolean isKind(int kind) {
        return kind >= 0 && kind < KINDS;
    }

    private static boolean isBlockOrder(int order) {
        return order >= 0 && order < BLOCK_ORDERS;
    }

    /** The frames of a span as the bits of an int: where places are, without a look at each frame. */
    private static final class Rows {
        /** A bit at each multiple of 2 to the order. */
        private static final int[] MULTIPLES = {-1, 0x55555555, 0x11111111, 0x01010101, 0x00010001, 1};

        /** A bit at the first frame of each place of an order (0 .. 5). */
        static int starts(int free, int order) {
            int row = free;
            for (int k = 0; k < order && k < SPAN_ORDER; k++) {
                row &= row >>> (1 << k) & MULTIPLES[k + 1];
            }
            return row;
        }

        /** Those of the starts of an order that lie in no place of the next order. */
        static int alone(int starts, int order) {
            if (order < 0 || order >= SPAN_ORDER) {
                return starts;
            }
            int half = 1 << order;
            int wider = starts & starts >>> half & MULTIPLES[order + 1];
            return starts & ~(wider | wider << half);
        }

        /** The least hole of a place among the starts of an order (there must be one). */
        static int leastHole(int starts, int order) {
            int row = starts;
            for (int hole = order; hole >= 0 && hole < SPAN_ORDER; hole++) {
                int half = 1 << hole;
                int wider = row & row >>> half & MULTIPLES[hole + 1];
                if ((row & ~(wider | wider << half)) != 0) {
                    return hole;
                }
                row = wider;
            }
            return SPAN_ORDER;
        }

        static int holeRound(int free, int offset) {
            int hole = NONE;
            for (int order = 0; order <= SPAN_ORDER; order++) {
                int start = offset >> order << order;
                if ((starts(free, order) >>> start & 1) == 0) {
                    return hole;
                }
                hole = order;
            }
            return hole;
        }

        static int widest(int free) {
            for (int order = SPAN_ORDER; order >= 0; order--) {
                if (starts(free, order) != 0) {
                    return order;
                }
            }
            return NONE;
        }

        static int bitsIn(int[] rows) {
            int bits = 0;
            for (int row : rows) {
                bits += Integer.bitCount(row);
            }
            return bits;
        }

        static void copy(int[] from, int[] to) {
            System.arraycopy(from, 0, to, 0, Math.min(from.length, to.length));
        }
    }

    /** A frame of a span that isn't off has its bit in just one of free, apart, taken and held. */
    private static final class Frames {
        final int[] free = new int[SPANS];
        final int[] apart = new int[SPANS];
        final int[] taken = new int[SPANS];
        final int[] held = new int[SPANS];
        final int[] blockOf = new int[FRAMES];
        final int[] value = new int[FRAMES];

        Frames() {
            Arrays.fill(blockOf, NONE);
        }

        void copyFrom(Frames other) {
            Rows.copy(other.free, free);
            Rows.copy(other.apart, apart);
            Rows.copy(other.taken, taken);
            Rows.copy(other.held, held);
            Rows.copy(other.blockOf, blockOf);
            Rows.copy(other.value, value);
        }

        int stateOf(int frame) {
            int span = frame / SPAN_FRAMES;
            int bit = 1 << frame % SPAN_FRAMES;
            if ((free[span] & bit) != 0) {
                return FRAME_FREE;
            }
            if ((apart[span] & bit) != 0) {
                return FRAME_APART;
            }
            if ((taken[span] & bit) != 0) {
                return FRAME_TAKEN;
            }
            return (held[span] & bit) != 0 ? FRAME_HELD : FRAME_OFF;
        }

        void give(int block, int first, int size) {
            taken[first / SPAN_FRAMES] |= claim(block, first, size);
        }

        void hold(int block, int first, int size) {
            held[first / SPAN_FRAMES] |= claim(block, first, size);
        }

        /** Marks free frames as a block's and answers their bits. */
        private int claim(int block, int first, int size) {
            int bits = (1 << size) - 1 << first % SPAN_FRAMES;
            free[first / SPAN_FRAMES] &= ~bits;
            for (int f = first; f < first + size; f++) {
                blockOf[f] = block;
            }
            return bits;
        }

        /** What was held for a block is taken by it. */
        void settle(int first, int size) {
            int bits = (1 << size) - 1 << first % SPAN_FRAMES;
            held[first / SPAN_FRAMES] &= ~bits;
            taken[first / SPAN_FRAMES] |= bits;
        }

        /** Frames in shut parts stay apart, so that nobody takes them again while the span goes. */
        void letGo(int first, int size, int shutBits) {
            int span = first / SPAN_FRAMES;
            int bits = (1 << size) - 1 << first % SPAN_FRAMES;
            taken[span] &= ~bits;
            held[span] &= ~bits;
            free[span] |= bits & ~shutBits;
            apart[span] |= bits & shutBits;
            for (int f = first; f < first + size; f++) {
                blockOf[f] = NONE;
                value[f] = 0;
            }
        }

        void copyValues(int from, int to, int many) {
            for (int i = 0; i < many; i++) {
                value[to + i] = value[from + i];
            }
        }
    }

    /** The blocks by number; one that has no first frame is none. */
    private static final class Blocks {
        final int[] first = new int[BLOCKS];
        final int[] order = new int[BLOCKS];
        final int[] kind = new int[BLOCKS];
        final int[] owner = new int[BLOCKS];
        final int[] pins = new int[BLOCKS];
        final int[] target = new int[BLOCKS];
        final int[] copied = new int[BLOCKS];
        final int[] used = new int[BLOCKS];
        int uses = 0;

        Blocks() {
            Arrays.fill(first, NONE);
            Arrays.fill(target, NONE);
        }

        void copyFrom(Blocks other) {
            Rows.copy(other.first, first);
            Rows.copy(other.order, order);
            Rows.copy(other.kind, kind);
            Rows.copy(other.owner, owner);
            Rows.copy(other.pins, pins);
            Rows.copy(other.target, target);
            Rows.copy(other.copied, copied);
            Rows.copy(other.used, used);
            uses = other.uses;
        }

        boolean has(int block) {
            return block >= 0 && block < BLOCKS && first[block] != NONE;
        }

        int size(int block) {
            return 1 << order[block];
        }

        /** Neither pinned nor on its way. */
        boolean isLoose(int block) {
            return pins[block] == 0 && target[block] == NONE;
        }

        int leastNumber() {
            for (int block = 0; block < BLOCKS; block++) {
                if (first[block] == NONE) {
                    return block;
                }
            }
            return NONE;
        }

        void begin(int block, int at, int itsOrder, int itsKind, int itsOwner) {
            first[block] = at;
            order[block] = itsOrder;
            kind[block] = itsKind;
            owner[block] = itsOwner;
            pins[block] = 0;
            target[block] = NONE;
            copied[block] = 0;
        }

        int leastUsedCache() {
            int least = NONE;
            for (int block = 0; block < BLOCKS; block++) {
                if (first[block] != NONE && kind[block] == CACHE && isLoose(block)
                        && (least == NONE || used[block] < used[least])) {
                    least = block;
                }
            }
            return least;
        }

        int howMany() {
            int many = 0;
            for (int block = 0; block < BLOCKS; block++) {
                many += first[block] != NONE ? 1 : 0;
            }
            return many;
        }

        int ownedBy(int task) {
            int owned = 0;
            for (int block = 0; block < BLOCKS; block++) {
                owned += first[block] != NONE && owner[block] == task ? 1 : 0;
            }
            return owned;
        }

        int pinnedBy(int task) {
            int pinned = 0;
            for (int block = 0; block < BLOCKS; block++) {
                pinned += first[block] != NONE ? pins[block] >> task & 1 : 0;
            }
            return pinned;
        }

        int framesAt(int task, int node) {
            int many = 0;
            for (int block = 0; block < BLOCKS; block++) {
                if (first[block] != NONE && owner[block] == task
                        && first[block] / SPAN_FRAMES % NODES == node) {
                    many += size(block);
                }
            }
            return many;
        }
    }

    /** The spans; parts are shut from the first on, so that their number tells which. */
    private static final class Spans {
        final int[] state = new int[SPANS];
        final int[] zone = new int[SPANS];
        final int[] shut = new int[SPANS];
        final int[] pass = new int[SPANS];
        final int[] pause = new int[SPANS];
        final int[] reached = new int[SPANS];
        final int[] leaving = new int[SPANS];
        final int[] why = new int[SPANS];

        Spans() {
            Arrays.fill(zone, NONE);
            Arrays.fill(leaving, NONE);
            Arrays.fill(why, NONE);
        }

        void copyFrom(Spans other) {
            Rows.copy(other.state, state);
            Rows.copy(other.zone, zone);
            Rows.copy(other.shut, shut);
            Rows.copy(other.pass, pass);
            Rows.copy(other.pause, pause);
            Rows.copy(other.reached, reached);
            Rows.copy(other.leaving, leaving);
            Rows.copy(other.why, why);
        }

        boolean isGoing(int span) {
            return state[span] == SHUTTING || state[span] == MOVING;
        }

        int shutBits(int span) {
            return shut[span] >= PARTS ? -1 : (1 << shut[span] * PART_FRAMES) - 1;
        }

        /** It is on, or off, again: nothing of its way out is left. */
        void endGoing(int span, int newState) {
            state[span] = newState;
            shut[span] = 0;
            pass[span] = 0;
            pause[span] = 0;
            reached[span] = 0;
            leaving[span] = NONE;
        }

        boolean canGo(int span) {
            if (state[span] != ON) {
                return false;
            }
            for (int other = 0; other < SPANS; other++) {
                if (other != span && state[other] == ON && zone[other] == NORMAL_ZONE) {
                    return true;
                }
            }
            return false;
        }

        int inZone(int itsZone) {
            int many = 0;
            for (int span = 0; span < SPANS; span++) {
                many += zone[span] == itsZone ? 1 : 0;
            }
            return many;
        }

        /** Of both nodes alike the first; a node whose spans are all there has none to bring. */
        int nextByTurns() {
            int best = NONE;
            int bestThere = SPANS;
            for (int node = 0; node < NODES; node++) {
                int there = 0;
                int leastOff = NONE;
                for (int span = node; span < SPANS; span += NODES) {
                    if (state[span] != OFF) {
                        there++;
                    } else if (leastOff == NONE) {
                        leastOff = span;
                    }
                }
                if (leastOff != NONE && there < bestThere) {
                    best = leastOff;
                    bestThere = there;
                }
            }
            return best;
        }

        int goingSet() {
            int set = 0;
            for (int span = 0; span < SPANS; span++) {
                set |= isGoing(span) ? 1 << span : 0;
            }
            return set;
        }
    }

    /** The tasks; one line in order of waiting holds the lines of all blocks. */
    private static final class Tasks {
        final int[] home = new int[TASKS];
        final int[] waitsFor = new int[TASKS];
        final int[] lastRead = new int[TASKS];
        final int[] wish = new int[TASKS];
        final int[] wishAt = new int[TASKS];
        final int[] wishValue = new int[TASKS];
        final int[] line = new int[TASKS];
        int inLine = 0;

        Tasks() {
            Arrays.fill(waitsFor, NONE);
        }

        void copyFrom(Tasks other) {
            Rows.copy(other.home, home);
            Rows.copy(other.waitsFor, waitsFor);
            Rows.copy(other.lastRead, lastRead);
            Rows.copy(other.wish, wish);
            Rows.copy(other.wishAt, wishAt);
            Rows.copy(other.wishValue, wishValue);
            Rows.copy(other.line, line);
            inLine = other.inLine;
        }

        void wants(int task, int itsWish, int at, int value) {
            wish[task] = itsWish;
            wishAt[task] = at;
            wishValue[task] = value;
        }

        /** A task waits only once, so that the line has room for all of them. */
        void queue(int task, int block) {
            if (inLine < TASKS) {
                line[inLine] = task;
                inLine++;
                waitsFor[task] = block;
            }
        }

        int lineOf(int block) {
            int many = 0;
            for (int task = 0; task < TASKS; task++) {
                many += waitsFor[task] == block ? 1 : 0;
            }
            return many;
        }

        int waitingSet() {
            int set = 0;
            for (int task = 0; task < TASKS; task++) {
                set |= waitsFor[task] != NONE ? 1 << task : 0;
            }
            return set;
        }
    }

    /** The latest lines, each in the place of the one that came 60 lines ahead of it. */
    private static final class Log {
        final int[] tick = new int[LOG_LINES];
        final int[] what = new int[LOG_LINES];
        final int[] one = new int[LOG_LINES];
        final int[] other = new int[LOG_LINES];
        int lines = 0;
        private int next = 0;

        void copyFrom(Log from) {
            Rows.copy(from.tick, tick);
            Rows.copy(from.what, what);
            Rows.copy(from.one, one);
            Rows.copy(from.other, other);
            lines = from.lines;
            next = from.next;
        }

        void add(int itsTick, int itsWhat, int itsOne, int itsOther) {
            tick[next] = itsTick;
            what[next] = itsWhat;
            one[next] = itsOne;
            other[next] = itsOther;
            next = next + 1 < LOG_LINES ? next + 1 : 0;
            lines++;
        }

        int cell(int i, int column) {
            if (i < 0 || i >= LOG_LINES || i >= lines) {
                return NONE;
            }
            int at = next > i ? next - 1 - i : next - 1 - i + LOG_LINES;
            switch (column) {
                case 0:
                    return tick[at];
                case 1:
                    return what[at];
                case 2:
                    return one[at];
                case 3:
                    return other[at];
                default:
                    return NONE;
            }
        }
    }

    /** All that is and was told, and what is done to it outside of the ticks. */
    private static final class Memory {
        final Frames frames = new Frames();
        final Blocks blocks = new Blocks();
        final Spans spans = new Spans();
        final Tasks tasks = new Tasks();
        final Log log = new Log();
        final int[] told = new int[TOLD];
        final int[] counts = new int[COUNTS];
        int tick = 0;

        /** Without the log: in thought nobody reads it. */
        void copyFrom(Memory other) {
            frames.copyFrom(other.frames);
            blocks.copyFrom(other.blocks);
            spans.copyFrom(other.spans);
            tasks.copyFrom(other.tasks);
            Rows.copy(other.told, told);
            Rows.copy(other.counts, counts);
            tick = other.tick;
        }

        void openFirst() {
            Rows.copy(FIRST_TOLD, told);
            for (int span = 0; span < NODES; span++) {
                spans.state[span] = ON;
                spans.zone[span] = NORMAL_ZONE;
                frames.free[span] = -1;
            }
        }

        void open(int span, int zone) {
            spans.state[span] = ON;
            spans.zone[span] = zone;
            frames.free[span] = -1;
            log.add(tick, LOG_ON, span, zone);
        }

        int zoneByRatio() {
            int movable = spans.inZone(MOVABLE_ZONE) + 1;
            return staysInRatio(movable, spans.inZone(NORMAL_ZONE)) ? MOVABLE_ZONE : NORMAL_ZONE;
        }

        /** All spans have as many frames, so that spans are compared. */
        boolean staysInRatio(int movable, int normal) {
            return 100 * movable <= told[RATIO] * normal;
        }

        int rank(int span, int kind, int node) {
            int away = span % NODES == node ? 0 : 1;
            if (kind == MOVABLE) {
                return spans.zone[span] == MOVABLE_ZONE ? away : 2 + away;
            }
            return spans.zone[span] == NORMAL_ZONE ? away : NONE;
        }

        /** The first frame of the best place, or NONE; onlyOn: spans that go are left out. */
        int bestPlace(int task, int kind, int order, boolean onlyOn) {
            int best = NONE;
            int bestRank = 0;
            int bestHole = 0;
            for (int span = 0; span < SPANS; span++) {
                int starts = Rows.starts(frames.free[span], order);
                if (starts == 0 || onlyOn && spans.state[span] != ON) {
                    continue;
                }
                int rank = rank(span, kind, tasks.home[task]);
                if (rank == NONE || best != NONE && rank > bestRank) {
                    continue;
                }
                int hole = Rows.leastHole(starts, order);
                if (best == NONE || rank < bestRank || hole < bestHole) {
                    best = span;
                    bestRank = rank;
                    bestHole = hole;
                }
            }
            if (best == NONE) {
                return NONE;
            }
            int holes = Rows.alone(Rows.starts(frames.free[best], bestHole), bestHole);
            return best * SPAN_FRAMES + Integer.numberOfTrailingZeros(holes);
        }

        int bring(int task, int kind, int order, int value) {
            int place = bestPlace(task, kind, order, false);
            for (int drops = 0; drops < BLOCKS && place == NONE; drops++) {
                int cache = blocks.leastUsedCache();
                if (cache == NONE) {
                    break;
                }
                noteDrop(cache);
                remove(cache);
                place = bestPlace(task, kind, order, false);
            }
            int block = blocks.leastNumber();
            if (place == NONE || block == NONE) {
                counts[COUNT_HAD_NONE]++;
                return NONE;
            }
            blocks.begin(block, place, order, kind, task);
            blocks.uses++;
            blocks.used[block] = blocks.uses;
            frames.give(block, place, 1 << order);
            for (int i = 0; i < 1 << order; i++) {
                frames.value[place + i] = value + i;
            }
            counts[COUNT_CAME]++;
            return block;
        }

        void noteDrop(int block) {
            counts[COUNT_DROPPED]++;
            log.add(tick, LOG_DROPPED, block, blocks.first[block]);
        }

        void remove(int block) {
            int first = blocks.first[block];
            frames.letGo(first, 1 << blocks.order[block], spans.shutBits(first / SPAN_FRAMES));
            blocks.first[block] = NONE;
        }

        /** 0 if it is done, 1 if the task waits. */
        int doOrWait(int task, int block) {
            if (blocks.target[block] == NONE) {
                fulfil(task, block);
                return 0;
            }
            tasks.queue(task, block);
            counts[COUNT_WAITED]++;
            log.add(tick, LOG_WAITS, task, block);
            return 1;
        }

        void fulfil(int task, int block) {
            if (tasks.wish[task] == TO_PIN) {
                blocks.pins[block] |= 1 << task;
                return;
            }
            int frame = blocks.first[block] + tasks.wishAt[task];
            if (tasks.wish[task] == TO_READ) {
                tasks.lastRead[task] = frames.value[frame];
            } else {
                frames.value[frame] = tasks.wishValue[task];
            }
            blocks.uses++;
            blocks.used[block] = blocks.uses;
        }

        void serveLine(int block) {
            int left = 0;
            for (int k = 0; k < tasks.inLine; k++) {
                int task = tasks.line[k];
                if (tasks.waitsFor[task] == block) {
                    fulfil(task, block);
                    tasks.waitsFor[task] = NONE;
                    log.add(tick, LOG_DID, task, block);
                } else {
                    tasks.line[left] = task;
                    left++;
                }
            }
            tasks.inLine = left;
        }

        void moveAtOnce(int block, int place) {
            int old = blocks.first[block];
            int size = blocks.size(block);
            frames.give(block, place, size);
            frames.copyValues(old, place, size);
            frames.letGo(old, size, 0);
            blocks.first[block] = place;
            counts[COUNT_AT_ONCE]++;
        }

        /** Presses a span; a block that has moved ahead finds no place when it is met again. */
        int pack(int span) {
            int went = 0;
            for (int offset = SPAN_FRAMES - 1; offset >= 0; offset--) {
                int block = blockAt(span * SPAN_FRAMES + offset);
                if (block == NONE || blocks.kind[block] != MOVABLE || !blocks.isLoose(block)) {
                    continue;
                }
                int starts = Rows.starts(frames.free[span], blocks.order[block]);
                int ahead = Integer.numberOfTrailingZeros(starts);
                if (ahead < offset) {
                    moveAtOnce(block, span * SPAN_FRAMES + ahead);
                    went++;
                }
            }
            return went;
        }

        /** The block whose first frame it is. */
        int blockAt(int frame) {
            int block = frames.blockOf[frame];
            return block != NONE && blocks.first[block] == frame ? block : NONE;
        }

        /** Gathers for a task. */
        int bringNearer(int task) {
            int went = 0;
            for (int block = 0; block < BLOCKS; block++) {
                int place = blocks.has(block) && blocks.owner[block] == task ? nearerPlace(block) : NONE;
                if (place != NONE) {
                    moveAtOnce(block, place);
                    went++;
                }
            }
            return went;
        }

        int nearerPlace(int block) {
            int span = blocks.first[block] / SPAN_FRAMES;
            if (blocks.kind[block] != MOVABLE || !blocks.isLoose(block) || spans.state[span] != ON) {
                return NONE;
            }
            int task = blocks.owner[block];
            int place = bestPlace(task, MOVABLE, blocks.order[block], true);
            if (place == NONE) {
                return NONE;
            }
            int node = tasks.home[task];
            boolean nearer = rank(place / SPAN_FRAMES, MOVABLE, node) < rank(span, MOVABLE, node);
            return nearer ? place : NONE;
        }

        int freeInZone(int zone) {
            int many = 0;
            for (int span = 0; span < SPANS; span++) {
                many += spans.zone[span] == zone ? Integer.bitCount(frames.free[span]) : 0;
            }
            return many;
        }

        int widestInZone(int zone) {
            int widest = NONE;
            for (int span = 0; span < SPANS; span++) {
                if (spans.zone[span] == zone) {
                    widest = Math.max(widest, Rows.widest(frames.free[span]));
                }
            }
            return widest;
        }

        /** Why a block keeps a span in which it is; NONE if it doesn't. */
        int whyKeeps(int span, int block) {
            if (blocks.kind[block] == UNMOVABLE) {
                return WHY_UNMOVABLE;
            }
            if (blocks.pins[block] != 0) {
                return WHY_PINNED;
            }
            return blocks.kind[block] == CACHE || hasPlaceBeside(span, block) ? NONE : WHY_ELSE;
        }

        boolean hasPlaceBeside(int span, int block) {
            int node = tasks.home[blocks.owner[block]];
            for (int other = 0; other < SPANS; other++) {
                if (other != span && spans.state[other] == ON
                        && rank(other, blocks.kind[block], node) != NONE
                        && Rows.starts(frames.free[other], blocks.order[block]) != 0) {
                    return true;
                }
            }
            return false;
        }

        int keepers(int span) {
            int many = 0;
            for (int frame = span * SPAN_FRAMES; frame < (span + 1) * SPAN_FRAMES; frame++) {
                int block = blockAt(frame);
                many += block != NONE && whyKeeps(span, block) != NONE ? 1 : 0;
            }
            return many;
        }

        int keeper(int span, int i) {
            int met = 0;
            for (int frame = span * SPAN_FRAMES; frame < (span + 1) * SPAN_FRAMES; frame++) {
                int block = blockAt(frame);
                if (block != NONE && whyKeeps(span, block) != NONE) {
                    if (met == i) {
                        return block;
                    }
                    met++;
                }
            }
            return NONE;
        }

        /** Who has pins keeps it with them whatever the kind; without a pin only the unmovable has a holder. */
        int holdersOf(int span) {
            int set = 0;
            for (int frame = span * SPAN_FRAMES; frame < (span + 1) * SPAN_FRAMES; frame++) {
                int block = blockAt(frame);
                if (block != NONE) {
                    set |= blocks.pins[block];
                    set |= blocks.kind[block] == UNMOVABLE ? 1 << blocks.owner[block] : 0;
                }
            }
            return set;
        }
    }

    /** How spans go: what begins it, each tick of it, and what ends it. */
    private static final class Going {
        /** Far above what a span of 32 frames can need in one tick. */
        private static final int MOST_STEPS = 1000;

        final Memory memory = new Memory();
        private final Frames frames = memory.frames;
        private final Blocks blocks = memory.blocks;
        private final Spans spans = memory.spans;

        void begin(int span) {
            spans.state[span] = SHUTTING;
            memory.log.add(memory.tick, LOG_GOES, span, span % NODES);
        }

        void oneTick() {
            memory.tick++;
            for (int span = 0; span < SPANS; span++) {
                if (spans.state[span] == SHUTTING) {
                    shutNextPart(span);
                } else if (spans.state[span] == MOVING) {
                    moveOn(span);
                }
            }
        }

        private void shutNextPart(int span) {
            int from = spans.shut[span] * PART_FRAMES;
            if (hasUnmovable(span * SPAN_FRAMES + from)) {
                fail(span, WHY_UNMOVABLE);
                return;
            }
            int loose = frames.free[span] & (1 << PART_FRAMES) - 1 << from;
            frames.free[span] &= ~loose;
            frames.apart[span] |= loose;
            spans.shut[span]++;
            if (spans.shut[span] >= PARTS) {
                spans.state[span] = MOVING;
                spans.pass[span] = 1;
                spans.reached[span] = 0;
            }
        }

        private boolean hasUnmovable(int from) {
            for (int frame = from; frame < from + PART_FRAMES && frame < FRAMES; frame++) {
                int block = frames.blockOf[frame];
                if (block != NONE && blocks.kind[block] == UNMOVABLE) {
                    return true;
                }
            }
            return false;
        }

        private void moveOn(int span) {
            if (spans.pause[span] > 0) {
                spans.pause[span]--;
                return;
            }
            int left = memory.told[RATE];
            for (int step = 0; step < MOST_STEPS; step++) {
                int block = spans.leaving[span];
                if (block == NONE) {
                    int next = blockFrom(span, spans.reached[span]);
                    if (next == NONE) {
                        endPass(span);
                        return;
                    }
                    lookAt(span, next);
                } else {
                    left -= copySome(block, left);
                    if (blocks.copied[block] < blocks.size(block)) {
                        return;
                    }
                    arrive(span, block);
                }
            }
        }

        /** The first block of a span that begins at an offset or behind it. */
        private int blockFrom(int span, int offset) {
            for (int frame = span * SPAN_FRAMES + offset; frame < (span + 1) * SPAN_FRAMES; frame++) {
                int block = frames.blockOf[frame];
                if (block != NONE && blocks.first[block] == frame) {
                    return block;
                }
            }
            return NONE;
        }

        private void lookAt(int span, int block) {
            int order = blocks.order[block];
            int behind = blocks.first[block] % SPAN_FRAMES + blocks.size(block);
            if (blocks.kind[block] == UNMOVABLE || blocks.pins[block] != 0) {
                spans.reached[span] = behind;
                return;
            }
            if (blocks.kind[block] == CACHE) {
                memory.noteDrop(block);
                memory.remove(block);
                return;
            }
            int place = memory.bestPlace(blocks.owner[block], blocks.kind[block], order, true);
            if (place != NONE) {
                spans.reached[span] = behind;
                spans.leaving[span] = block;
                blocks.target[block] = place;
                frames.hold(block, place, 1 << order);
                return;
            }
            int number = order > 0 ? blocks.leastNumber() : NONE;
            if (number == NONE) {
                spans.reached[span] = behind;
                return;
            }
            split(block, number);
        }

        private void split(int block, int number) {
            int order = blocks.order[block] - 1;
            int middle = blocks.first[block] + (1 << order);
            blocks.order[block] = order;
            blocks.begin(number, middle, order, blocks.kind[block], blocks.owner[block]);
            blocks.used[number] = blocks.used[block];
            for (int i = 0; i < 1 << order; i++) {
                frames.blockOf[middle + i] = number;
            }
            memory.counts[COUNT_SPLIT]++;
            memory.log.add(memory.tick, LOG_SPLIT, block, number);
        }

        private int copySome(int block, int most) {
            int from = blocks.first[block] + blocks.copied[block];
            int to = blocks.target[block] + blocks.copied[block];
            int many = Math.min(most, blocks.size(block) - blocks.copied[block]);
            frames.copyValues(from, to, many);
            blocks.copied[block] += many;
            memory.counts[COUNT_COPIED] += many;
            return many;
        }

        private void arrive(int span, int block) {
            int old = blocks.first[block];
            int place = blocks.target[block];
            int size = blocks.size(block);
            frames.letGo(old, size, spans.shutBits(span));
            frames.settle(place, size);
            blocks.first[block] = place;
            endWay(span, block);
            memory.counts[COUNT_ARRIVED]++;
            memory.log.add(memory.tick, LOG_ARRIVED, block, place);
            memory.serveLine(block);
        }

        private void endWay(int span, int block) {
            blocks.target[block] = NONE;
            blocks.copied[block] = 0;
            spans.leaving[span] = NONE;
        }

        private void endPass(int span) {
            memory.counts[COUNT_PASSES]++;
            if (frames.taken[span] == 0 && frames.held[span] == 0) {
                turnOff(span);
            } else if (spans.pass[span] >= memory.told[TRIES]) {
                fail(span, whyFails(span));
            } else {
                spans.pass[span]++;
                spans.pause[span] = memory.told[PAUSE];
                spans.reached[span] = 0;
            }
        }

        private void turnOff(int span) {
            memory.counts[COUNT_OFF]++;
            memory.log.add(memory.tick, LOG_OFF, span, spans.pass[span]);
            frames.free[span] = 0;
            frames.apart[span] = 0;
            spans.zone[span] = NONE;
            spans.endGoing(span, OFF);
        }

        private int whyFails(int span) {
            int block = blockFrom(span, 0);
            if (block == NONE) {
                return WHY_ELSE;
            }
            if (blocks.kind[block] == UNMOVABLE) {
                return WHY_UNMOVABLE;
            }
            return blocks.pins[block] != 0 ? WHY_PINNED : WHY_ELSE;
        }

        private void fail(int span, int why) {
            frames.free[span] |= frames.apart[span];
            frames.apart[span] = 0;
            spans.endGoing(span, ON);
            spans.why[span] = why;
            memory.counts[COUNT_FAILED]++;
            memory.log.add(memory.tick, LOG_FAILED, span, why);
        }

        void callOff(int span) {
            int block = spans.leaving[span];
            if (block != NONE) {
                int place = blocks.target[block];
                frames.letGo(place, blocks.size(block), spans.shutBits(place / SPAN_FRAMES));
                endWay(span, block);
                memory.serveLine(block);
            }
            fail(span, WHY_GIVEN_UP);
        }
    }

    /** What would be: runs on copies, so that nothing of it stays. */
    private static final class Thought {
        private final Going going = new Going();
        final Memory trial = going.memory;
        final Memory then = new Memory();
        int ticks = 0;
        int fewest = 0;

        /** Whether a span that can go would be off; ticks and the trial's counts tell the rest. */
        boolean tryOut(Memory from, int span) {
            trial.copyFrom(from);
            going.begin(span);
            int gone = 0;
            while (gone < THOUGHT_TICKS && trial.spans.isGoing(span)) {
                going.oneTick();
                gone++;
            }
            ticks = gone;
            return trial.spans.state[span] == OFF;
        }

        int grownSince(Memory from, int count) {
            return trial.counts[count] - from.counts[count];
        }

        /** The easiest span, or NONE; fewest tells its ticks. */
        int findEasiest(Memory from) {
            int easiest = NONE;
            for (int span = 0; span < SPANS; span++) {
                if (from.spans.canGo(span) && tryOut(from, span)
                        && (easiest == NONE || ticks < fewest)) {
                    easiest = span;
                    fewest = ticks;
                }
            }
            return easiest;
        }

        int widestPacked(Memory from, int span) {
            trial.copyFrom(from);
            trial.pack(span);
            return Rows.widest(trial.frames.free[span]);
        }
    }
}
