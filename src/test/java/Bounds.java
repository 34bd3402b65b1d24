import java.util.function.Consumer;
import java.util.function.Supplier;
import java.util.function.ToLongFunction;

/** Asks at the bounds: what is refused, and that a refused call, or one that only asks, changes nothing. */
final class Bounds {
    /** A call of which one number is left open. */
    interface Numbered {
        long of(PullsToTheLeft x, int v);
    }

    private final Due due;
    private final Supplier<PullsToTheLeft> made;

    Bounds(Due due) {
        this(due, Whole::rich);
    }

    /** Each call is asked of an object that has something of everything, once that is done to it. */
    Bounds(Due due, Consumer<PullsToTheLeft> ahead) {
        this(due, () -> {
            PullsToTheLeft x = Whole.rich();
            ahead.accept(x);
            return x;
        });
    }

    Bounds(Due due, Supplier<PullsToTheLeft> made) {
        this.due = due;
        this.made = made;
    }

    /** That number alone runs from least to most: these are taken, and what lies beyond them is refused. */
    void range(String call, long refusal, int least, int most, Numbered asked) {
        due.other(call + " with " + least, refusal, asked.of(made.get(), least));
        due.other(call + " with " + most, refusal, asked.of(made.get(), most));
        outside(call, refusal, least, most, asked);
    }

    void outside(String call, long refusal, int least, int most, Numbered asked) {
        for (int v : new int[] {Integer.MIN_VALUE, least - 1, most + 1, Integer.MAX_VALUE}) {
            keeps(call + " with " + v, refusal, x -> asked.of(x, v));
        }
    }

    /** Any int will do: the answer is the same. */
    void any(String call, long want, Numbered asked) {
        for (int v : new int[] {Integer.MIN_VALUE, -1, 0, 1, 99, Integer.MAX_VALUE}) {
            due.same(call + " with " + v, want, asked.of(made.get(), v));
        }
    }

    /** The answer, behind which all is as it was. */
    void keeps(String call, long want, ToLongFunction<PullsToTheLeft> asked) {
        PullsToTheLeft x = made.get();
        due.same(call, want, asked.applyAsLong(x));
        same(call, x);
    }

    /** Whatever the answer is: all is as it was. */
    void onlyAsks(String call, ToLongFunction<PullsToTheLeft> asked) {
        PullsToTheLeft x = made.get();
        asked.applyAsLong(x);
        same(call, x);
    }

    private void same(String call, PullsToTheLeft x) {
        due.same(call + ": all as it was", Whole.of(made.get()), Whole.of(x));
    }
}
