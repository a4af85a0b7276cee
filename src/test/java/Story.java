import java.util.ArrayList;
import java.util.Arrays;
import java.util.List;
import java.util.function.Consumer;
import java.util.function.ToIntFunction;

/** A run of calls that can be told anew, so that all can be seen without asking one object beyond its 512 calls. */
final class Story {
    private static final int CALLS = 512;
    private static final List<ToIntFunction<SpansAway>> ASKS = asks();

    private final List<Consumer<SpansAway>> calls;

    Story() {
        this(new ArrayList<>());
    }

    private Story(List<Consumer<SpansAway>> calls) {
        this.calls = calls;
    }

    /** Another story: this one, and one more step of it. */
    Story then(Consumer<SpansAway> step) {
        List<Consumer<SpansAway>> longer = new ArrayList<>(calls);
        longer.add(step);
        return new Story(longer);
    }

    SpansAway told() {
        SpansAway x = new SpansAway();
        for (Consumer<SpansAway> call : calls) call.accept(x);
        return x;
    }

    /** The answers of every call that only tells; room is left for a story of some hundred calls. */
    int[] seen() {
        int[] answers = new int[ASKS.size()];
        SpansAway x = null;
        for (int k = 0; k < answers.length; k++) {
            if (k % (CALLS - 200) == 0) x = told();
            answers[k] = ASKS.get(k).applyAsInt(x);
        }
        return answers;
    }

    /** Whether all that can be seen is alike, at once and when time has gone by and tasks have gone on. */
    boolean isLike(Story other) {
        Consumer<SpansAway> later = x -> {
            x.tick(3);
            x.take(0, 0, 1, 9);
            x.take(1, 2, 0, 8);
            x.read(1, 0, 0);
            x.tick(40);
        };
        return Arrays.equals(seen(), other.seen()) && Arrays.equals(then(later).seen(), other.then(later).seen());
    }

    private static List<ToIntFunction<SpansAway>> asks() {
        List<ToIntFunction<SpansAway>> asks = new ArrayList<>();
        for (int a = 0; a < 256; a++) {
            int f = a;
            for (int b = 0; b < 3; b++) {
                int w = b;
                asks.add(x -> x.frame(f, w));
            }
            asks.add(x -> x.hole(f));
        }
        for (int a = 0; a < 96; a++) {
            for (int b = 0; b < 9; b++) {
                int n = a, w = b;
                asks.add(x -> x.block(n, w));
            }
        }
        for (int a = 0; a < 8; a++) {
            int s = a;
            for (int b = 0; b < 11; b++) {
                int w = b;
                asks.add(x -> x.span(s, w));
            }
            for (int b = -1; b < 8; b++) {
                int i = b;
                asks.add(x -> x.keeps(s, i, 0));
                asks.add(x -> x.keeps(s, i, 1));
            }
            for (int b = 0; b < 5; b++) {
                int w = b;
                asks.add(x -> x.would(s, w));
            }
            asks.add(x -> x.holders(s));
            asks.add(x -> x.pressed(s));
        }
        for (int a = 0; a < 6; a++) {
            int t = a;
            for (int b = 0; b < 6; b++) {
                int w = b;
                asks.add(x -> x.task(t, w));
            }
            for (int b = 0; b < 15; b++) {
                int kind = b / 5, order = b % 5;
                asks.add(x -> x.place(t, kind, order));
            }
            asks.add(x -> x.at(t, 0));
            asks.add(x -> x.at(t, 1));
        }
        for (int a = 0; a < 2; a++) {
            int z = a;
            for (int b = 0; b < 3; b++) {
                int w = b;
                asks.add(x -> x.zone(z, w));
            }
            for (int b = 0; b < 6; b++) {
                int order = b;
                asks.add(x -> x.loose(z, order));
            }
            asks.add(x -> x.easiest(z));
        }
        asks.add(SpansAway::movable);
        asks.add(SpansAway::givenBack);
        for (int a = 0; a < 60; a++) {
            for (int b = 0; b < 4; b++) {
                int i = a, w = b;
                asks.add(x -> x.log(i, w));
            }
        }
        for (int a = 0; a < 15; a++) {
            int w = a;
            asks.add(x -> x.count(w));
            asks.add(x -> x.look(w));
        }
        return asks;
    }
}
