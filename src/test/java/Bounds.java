/** What a call takes and what it refuses, and that a refused one changes nothing. */
final class Bounds {
    interface Call {
        int of(FallCards x);
    }

    interface CallWith {
        int of(FallCards x, int v);
    }

    private final Due due;

    Bounds(Due due) {
        this.due = due;
    }

    /** Refused with this answer; an object made alike, without the call, shows that nothing has changed. */
    void refused(String call, Stage.Maker maker, int answer, Call c) {
        FallCards x = maker.make();
        due.is(call, c.of(x), answer);
        due.same("the state behind " + call, Look.whole(x), Look.whole(maker.make()));
    }

    /** Answers this, and changes nothing. */
    void asks(String call, Stage.Maker maker, Call c, int answer) {
        refused(call, maker, answer, c);
    }

    /** Numbers from low to high are taken, all others refused, also those that a narrower sort would take for them. */
    void ends(String call, Stage.Maker maker, int low, int high, int refusal, CallWith c) {
        for (int v : new int[] {low, low + 1, high - 1, high}) {
            if (v >= low && v <= high) {
                due.is(call + " of " + v + " is refused", c.of(maker.make(), v) == refusal ? 1 : 0, 0);
            }
        }
        int[] outside = {low - 1, high + 1, low - 2, high + 2, Integer.MIN_VALUE, Integer.MAX_VALUE, low + 256, high - 256,
            low + 65536, high - 65536, low + (1 << 30), Integer.MIN_VALUE + high};
        for (int v : outside) {
            if (v < low || v > high) {
                refused(call + " of " + v, maker, refusal, x -> c.of(x, v));
            }
        }
    }
}
