/** The bounds that 'Terms' 2 and 3 name of falls, and promises 13 to 22, sentence by sentence. */
public final class FallsBoundsTest {
    private static final Due due = new Due();
    private static final Bounds bounds = new Bounds(due);
    private static final int BAD = -1, NONE = -3, NO = Integer.MIN_VALUE;

    /** A call that lets a card go, whatever else it is given. */
    private interface Start {
        int of(FallCards x, int card, int height, int slant, int turn);
    }

    public static void main(String[] args) {
        starts();
        starts("aim", BAD, (x, c, h, s, t) -> x.aim(c, h, t, 0), false, true);
        starts("longest", BAD, (x, c, h, s, t) -> x.longest(h, s, t), true, false);
        fallNumbers();
        fourHundred();
        swings();
        rounds();
        sorts();
        squares();
        lineNumbers();
        lineOfWeights();
        partedNumbers();
        partedApart();
        partedLanded();
        oddsNumbers();
        oddsOfHand();
        fractions();
        aimNumbers();
        aimOfSeveral();
        longest();
        filmRefusals();
        missAsFar();
        missAtMost();
        fitOfSeveral();
        thrown();
        thrownGoesRound();
        seed();
        asking();
        due.end("FallsBoundsTest");
    }

    /** Every number of the letting go at its ends; the calls that let go are refused alike. */
    private static void starts() {
        due.says("a CARD from a HEIGHT (1 to 9999), at a SLANT (0 to 35), with a TURN (-9 to 9)");
        starts("fall", NO, (x, c, h, s, t) -> x.fall(c, h, s, t, 0), true, true);
        starts("line", BAD, (x, c, h, s, t) -> x.line(c, h, s, t, 0), true, true);
        starts("parted", BAD, (x, c, h, s, t) -> x.parted(c, h, s, t, 0), true, true);
        starts("odds", BAD, (x, c, h, s, t) -> x.odds(c, h, s, t, 0, 1), true, true);
        starts("fit", BAD, (x, c, h, s, t) -> x.fit(c, h, s, t, 2, 0), true, true);
        starts("miss", BAD, (x, c, h, s, t) -> x.miss(c, h, s, t, 2), true, true);
        starts("toss", NO, (x, c, h, s, t) -> x.toss(c, h, s, t), true, true);
    }

    /** Two light cards that come down from 9999 within 400 ticks, and a film on sheet 2. */
    private static FallCards two() {
        FallCards x = Due.plain();
        x.card(1, 40, 3, 0);
        x.card(0, 30, 3, 0);
        x.sheet(2, 2, 2);
        x.seed(5);
        return x;
    }

    private static void starts(String call, int refusal, Start s, boolean slants, boolean cards) {
        if (cards) {
            bounds.ends(call + " of a card", FallsBoundsTest::two, 0, 1, refusal, (x, v) -> s.of(x, v, 50, 5, 0));
            bounds.ends(call + " of a card of six", FallsBoundsTest::six, 0, 5, refusal, (x, v) -> s.of(x, v, 50, 5, 0));
            bounds.refused(call + " of no card", Stage::fresh, refusal, x -> s.of(x, 0, 50, 5, 0));
        }
        bounds.ends(call + " from a height", FallsBoundsTest::two, 1, 9999, refusal, (x, v) -> s.of(x, 0, v, 5, 0));
        if (slants) {
            bounds.ends(call + " at a slant", FallsBoundsTest::two, 0, 35, refusal, (x, v) -> s.of(x, 0, 50, v, 0));
        }
        bounds.ends(call + " with a turn", FallsBoundsTest::two, -9, 9, refusal, (x, v) -> s.of(x, 0, 50, 5, v));
        bounds.refused(call + ", all not as told", FallsBoundsTest::two, refusal, x -> s.of(x, 2, 0, 36, 10));
    }

    private static FallCards six() {
        FallCards x = two();
        for (int i = 2; i < 6; i++) {
            x.card(i % 2, 20, 1, 0);
        }
        return x;
    }

    private static FallCards one(int kind, int weight, int clip) {
        FallCards x = Due.plain();
        x.card(kind, weight, 1, clip);
        return x;
    }

    private static void fallNumbers() {
        due.says("what = 0 TICKS .. 5 SQUARE. NO: not as told; it hasn't LANDED");
        bounds.ends("what of a fall", FallsBoundsTest::two, 0, 5, NO, (x, v) -> x.fall(0, 50, 0, 0, v));
        for (int what = -1; what <= 6; what++) {
            int w = what;
            bounds.refused("one that hasn't landed, " + what, () -> one(1, 1, 0), NO, x -> x.fall(0, 9851, 0, 0, w));
        }
    }

    private static void fourHundred() {
        due.says("A FALL is done till it has LANDED (400 TICKS at most; else it hasn't)");
        // With weight 1 the k-th tick falls k by 8: 9751 in 398, 9800 in 399, 9850 in 400 of them.
        FallCards x = one(1, 1, 0);
        due.is("399 ticks", x.fall(0, 9800, 0, 0, 0), 399);
        due.is("the 400th", x.fall(0, 9801, 0, 0, 0), 400);
        due.is("still the 400th", x.fall(0, 9850, 0, 0, 0), 400);
        due.is("a 401st", x.fall(0, 9851, 0, 0, 0), NO);
        due.is("the air goes farther", x.letGo(0, 9851, 0, 0), -9);
        due.is("400 of them", x.tick(400), 400);
        due.is("1 high", x.air(3), 1);
        due.is("the 401st lands", x.tick(400), 1);
        due.is("a line needs 400, too", x.line(0, 9850, 0, 0, 0), 1);
        due.is("else more weight", x.line(0, 9851, 0, 0, 0), 2);
        due.is("odds of 400", x.odds(0, 9850, 0, 0, 0, 0), 1);
        due.is("odds of 401", x.odds(0, 9851, 0, 0, 0, 0), 0);
        due.is("a throw of 400", x.toss(0, 9850, 0, 0), 0);
        due.is("a throw of 401", x.toss(0, 9851, 0, 0), NO);
        due.is("aim of 400", x.aim(0, 9850, 0, 0), 0);
        due.is("aim of 401", x.aim(0, 9851, 0, 0), NONE);
    }

    private static int falls(FallCards x, int ticks, int slant, int turn, int what) {
        return x.fall(0, ticks * (ticks + 1) / 2, slant, turn, what);
    }

    private static void swings() {
        due.says("SWINGS: how often TURN is above 0 behind a TICK and below 0 behind the next one, or the other way");
        // A swinging card turns about from 9 to 10 and from 27 to 26; at 10 it comes back to 9.
        FallCards x = one(2, 8, 0);
        due.is("1, then -1", falls(x, 2, 9, 1, 2), 1);
        due.is("-1, then 1", falls(x, 2, 27, -1, 2), 1);
        due.is("one tick alone", falls(x, 1, 9, 1, 2), 0);
        due.is("the turn let go with is behind no tick", falls(x, 1, 10, 1, 2), 0);
        due.is("nor with one tick more", falls(x, 2, 10, 1, 2), 0);
        due.is("nor the other way", falls(x, 2, 26, -1, 2), 0);
        due.is("without turning", falls(x, 30, 15, 0, 2), 0);
        // 5 and 9 are 14, there -9 to 5 again.
        due.is("there and back", falls(x, 2, 5, 9, 2), 1);
        due.is("there, back and on", falls(x, 3, 5, 9, 2), 1);
        // From 26 by 2: -2 to 24, 2 to 26, -2 to 24 ..
        for (int n = 1; n <= 12; n++) {
            due.is("to and fro, " + n + " ticks", falls(x, n, 26, 2, 2), n - 1);
        }
        // Damped by 63 of 64, a turn of 1 with clip -1 is 0, then -1: 0 is neither above nor below.
        FallCards y = one(0, 8, -1);
        y.letGo(0, 9999, 9, 2);
        y.tick(1);
        due.is("turn 1", y.air(5), 1);
        y.tick(1);
        due.is("turn 0", y.air(5), 0);
        y.tick(1);
        due.is("turn -1", y.air(5), -1);
        due.is("1, 0, -1 is no swing", falls(y, 9, 9, 2, 2), 0);
        FallCards z = one(0, 8, 1);
        due.is("-1, 0, 1 is no swing", falls(z, 9, 9, -2, 2), 0);
        FallCards w = one(0, 8, -3);
        due.is("1, -2 is a swing", falls(w, 2, 18, 4, 2), 1);
        FallCards v = one(0, 8, 3);
        due.is("-1, 2 is a swing", falls(v, 2, 18, -4, 2), 1);
    }

    private static void rounds() {
        due.says("ROUNDS: how often SLANT came from 27 or more to 8 or less, or the other way, in one TICK");
        for (int slant = 0; slant < 36; slant++) {
            FallCards x = one(0, 8, 0);
            for (int turn = -9; turn <= 9; turn++) {
                int to = (slant + turn + 36) % 36;
                int want = slant >= 27 && to <= 8 || slant <= 8 && to >= 27 ? 1 : 0;
                due.is(slant + " by " + turn, x.fall(0, 1, slant, turn, 3), want);
            }
        }
        FallCards y = one(0, 8, 0);
        int[][] edges = {{27, 9, 1}, {26, 9, 0}, {35, 9, 1}, {27, 8, 0}, {35, 1, 1}, {34, 1, 0}, {28, 9, 1}, {8, -9, 1}, {9, -9, 0}, {0, -9, 1},
            {8, -8, 0}, {0, -1, 1}, {1, -1, 0}, {18, 9, 0}, {17, -9, 0}, {18, -9, 0}};
        for (int[] e : edges) {
            due.is(e[0] + " by " + e[1], y.fall(0, 1, e[0], e[1], 3), e[2]);
        }
        for (int n = 1; n <= 40; n++) {
            due.is("by 9, ticks " + n, falls(y, n, 0, 9, 3), n / 4);
            due.is("by -9, ticks " + n, falls(y, n, 0, -9, 3), (n + 3) / 4);
        }
    }

    private static void sorts() {
        due.says("SORT: 0 even (no SWINGS, no ROUNDS), 1 swinging (SWINGS alone), 2 turning (ROUNDS alone), 3 muddled");
        FallCards x = one(2, 8, 0);
        due.is("even", falls(x, 2, 3, 0, 4), 0);
        due.is("one swing", falls(x, 2, 9, 1, 4), 1);
        due.is("many swings", falls(x, 9, 26, 2, 4), 1);
        due.is("one round", falls(x, 1, 35, 1, 4), 2);
        // 1 by 9 to 10, by -9 back to 1 and on to 28.
        due.is("a swing", falls(x, 2, 1, 9, 4), 1);
        due.is("a swing and a round", falls(x, 3, 1, 9, 4), 3);
        // 9 by 1 to 10, then down: past 0 in the 12th tick.
        due.is("a swing ahead of the round", falls(x, 11, 9, 1, 4), 1);
        due.is("one of each", falls(x, 12, 9, 1, 4), 3);
        FallCards y = one(0, 8, 0);
        due.is("many rounds", falls(y, 36, 0, 9, 4), 2);
    }

    private static void squares() {
        due.says("SQUARE: ACROSS by 100, towards what is less (of -1: -1)");
        // Blown by 8 a tick more each time, across is 1, 3, 6, .. times the way.
        FallCards x = one(1, 8, 0);
        x.set(5, 0);
        for (int ticks = 1; ticks <= 60; ticks++) {
            int across = -(ticks * (ticks + 1) / 2);
            due.is("across", falls(x, ticks, 0, 0, 1), across);
            due.is("square of " + across, falls(x, ticks, 0, 0, 5), -((99 - across) / 100));
        }
        // Ends of squares: 24 ticks are 300, of which the last is 24.
        due.is("square of -276", falls(x, 23, 0, 0, 5), -3);
        due.is("square of -300", falls(x, 24, 0, 0, 5), -3);
        due.is("square of -325", falls(x, 25, 0, 0, 5), -4);
        due.is("square of -1", falls(x, 1, 0, 0, 5), -1);
        FallCards still = one(1, 8, 0);
        due.is("square of 0", falls(still, 1, 0, 0, 5), 0);
        FallCards y = blownTo100();
        due.is("across 100", y.air(2), 100);
        due.is("square of 100", squareOf(y, y.air(1)), 1);
        due.is("square of what is less", squareOf(y, y.air(1) - 1), 0);
    }

    /** Blown by 1 a tick more each time, till it is 100 across. */
    private static FallCards blownTo100() {
        FallCards x = one(1, 8, 0);
        x.set(5, 36);
        x.letGo(0, 9999, 0, 0);
        int ticks = 0;
        while (x.air(2) < 100 && ticks < 200) {
            x.tick(1);
            ticks++;
        }
        return x;
    }

    private static int squareOf(FallCards x, int ticks) {
        return x.fall(0, ticks * (ticks + 1) / 2, 0, 0, 5);
    }

    private static void lineNumbers() {
        due.says("LINE (whatever WEIGHT it has). BAD: also sort (0 to 3); NONE");
        bounds.ends("sort of a line", FallsBoundsTest::two, 0, 3, BAD, (x, v) -> x.line(0, 50, 5, 0, v));
        bounds.refused("NONE", FallsBoundsTest::two, NONE, x -> x.line(0, 50, 5, 0, 3));
        // BAD ahead of NONE: a steady one is never of sort 1.
        int[][] bad = {{2, 50, 5, 0, 1}, {0, 0, 5, 0, 1}, {0, 10000, 5, 0, 1}, {0, 50, 36, 0, 1}, {0, 50, 5, 10, 1}, {0, 50, 5, 0, 4}};
        for (int[] b : bad) {
            bounds.refused("BAD ahead of NONE", FallsBoundsTest::two, BAD, x -> x.line(b[0], b[1], b[2], b[3], b[4]));
        }
        for (int weight : new int[] {1, 50, 99}) {
            FallCards x = one(1, weight, 0);
            due.is("whatever weight", x.line(0, 9851, 0, 0, 0), 2);
            due.is("the weight stays", x.cardOf(0, 1), weight);
            due.is("NONE, whatever weight", x.line(0, 9851, 0, 0, 2), NONE);
        }
    }

    private static void lineOfWeights() {
        due.says("the least WEIGHT (1 to 99) with which its FALL has LANDED with that SORT");
        // Of slant 34 by 1 the second tick makes the round: even is what lands with the first, of weight by 8.
        FallCards x = one(0, 50, 0);
        for (int height = 1; height <= 12; height++) {
            due.is("even from " + height, x.line(0, height, 34, 1, 0), 8 * height);
            due.is("a round from " + height, x.line(0, height, 34, 1, 2), 1);
        }
        due.is("even from 13", x.line(0, 13, 34, 1, 0), NONE);
        // Of slant 35 by 1 the first tick makes it: none is even, weight 1 makes rounds.
        due.is("none is even", x.line(0, 1, 35, 1, 0), NONE);
        due.is("weight 1", x.line(0, 1, 35, 1, 2), 1);
        // Three ticks ahead of the round fall 12, 24 and 37 with weight 99, 12, 24 and 36 with 96 to 98.
        due.is("weight 99", x.line(0, 73, 32, 1, 0), 99);
        due.is("weight 96", x.line(0, 72, 32, 1, 0), 96);
        due.is("none", x.line(0, 74, 32, 1, 0), NONE);
    }

    private static FallCards lifting() {
        FallCards x = Stage.plainSteady();
        x.set(0, 32);
        return x;
    }

    private static void partedNumbers() {
        due.says("PARTED by far (0 to 9999). BAD; NONE");
        bounds.ends("far", FallsBoundsTest::lifting, 0, 9999, BAD, (x, v) -> x.parted(0, 9999, 3, 0, v));
        bounds.refused("NONE", FallsBoundsTest::lifting, NONE, x -> x.parted(0, 10, 0, 0, 9999));
        int[][] bad = {{1, 10, 0, 0, 9}, {0, 0, 0, 0, 9}, {0, 10, 36, 0, 9}, {0, 10, -1, 0, 9}, {0, 10, 0, 10, 9}, {0, 10, 0, 0, 10000},
            {0, 10, 0, 0, -1}};
        for (int[] b : bad) {
            bounds.refused("BAD ahead of NONE", FallsBoundsTest::lifting, BAD, x -> x.parted(b[0], b[1], b[2], b[3], b[4]));
        }
    }

    private static void partedApart() {
        due.says("the first TICK behind which a FALL and one with the next SLANT (modulo 36) are more than d ACROSS apart");
        FallCards x = lifting();
        // At 0 it goes straight down; at 1 across is 0, 0, 0, 0, 1, 3, 6 behind ticks 1 to 7, at 35 it is -1 as soon.
        int[] ticks = {5, 6, 6, 7, 7, 7, 8};
        for (int far = 0; far < ticks.length; far++) {
            due.is("0 and 1, more than " + far, x.parted(0, 9999, 0, 0, far), ticks[far]);
            due.is("35 and 0, more than " + far, x.parted(0, 9999, 35, 0, far), ticks[far]);
        }
        FallCards y = Stage.plainSteady();
        for (int slant = 0; slant < 36; slant++) {
            due.is("without lift at " + slant, y.parted(0, 9999, slant, 0, 0), NONE);
        }
        // Lift is alike at 4 and 14, so the next slants part them the other way about.
        for (int slant = 0; slant < 18; slant++) {
            due.is("mirrored at " + slant, x.parted(0, 9999, slant, 0, 20), x.parted(0, 9999, 17 - slant, 0, 20));
            due.is("turned about at " + slant, x.parted(0, 9999, slant, 0, 20), x.parted(0, 9999, slant + 18, 0, 20));
        }
    }

    private static void partedLanded() {
        due.says("(both not LANDED ahead of it)");
        FallCards x = lifting();
        due.is("they land in that tick", x.parted(0, 15, 0, 0, 0), 5);
        due.is("they land a tick ahead", x.parted(0, 10, 0, 0, 0), NONE);
        // Edge brakes the more the farther a slant is from 9 and 27: of two the one that is nearer lands sooner, and ends it.
        for (int slant : new int[] {7, 8, 9, 10, 25, 26, 27, 28}) {
            int next = (slant + 1) % 36;
            FallCards y = braking();
            int lands = Math.min(y.fall(0, 300, slant, 0, 0), y.fall(0, 300, next, 0, 0));
            due.is("one lands sooner, " + slant, y.fall(0, 300, slant, 0, 0) == y.fall(0, 300, next, 0, 0) ? 1 : 0, 0);
            int[] one = acrosses(slant, lands + 1);
            int[] two = acrosses(next, lands + 1);
            for (int far = 0; far < 60; far++) {
                due.is("at " + slant + ", more than " + far, y.parted(0, 300, slant, 0, far), firstApart(one, two, lands, far));
            }
            int most = 0;
            for (int i = 0; i < lands; i++) {
                most = Math.max(most, Math.abs(one[i] - two[i]));
            }
            due.is("just as far, " + slant, y.parted(0, 300, slant, 0, most), NONE);
            due.is("a bit less, " + slant, most == 0 ? NONE : y.parted(0, 300, slant, 0, most - 1), firstApart(one, two, lands, most - 1));
        }
        due.says("A FALL .. 400 TICKS at most");
        FallCards slow = one(1, 1, 0);
        slow.set(0, 1);
        slow.letGo(0, 9999, 1, 0);
        slow.tick(399);
        int ahead = slow.air(2);
        slow.tick(1);
        due.is("by the 400th tick", slow.parted(0, 9999, 0, 0, ahead), 400);
        due.is("by the 401st", slow.parted(0, 9999, 0, 0, slow.air(2)), NONE);
    }

    private static int firstApart(int[] one, int[] two, int ticks, int far) {
        for (int i = 0; i < ticks; i++) {
            if (Math.abs(one[i] - two[i]) > far) {
                return i + 1;
            }
        }
        return NONE;
    }

    private static FallCards braking() {
        FallCards x = Stage.plainSteady();
        x.set(2, 63);
        x.set(0, 63);
        return x;
    }

    private static int[] acrosses(int slant, int ticks) {
        FallCards x = braking();
        x.letGo(0, 300, slant, 0);
        int[] out = new int[ticks];
        for (int i = 0; i < ticks; i++) {
            x.tick(1);
            out[i] = x.air(2);
        }
        return out;
    }

    private static void oddsNumbers() {
        due.says("ODDS of a SQUARE (-999 to 999). BAD");
        bounds.ends("square of odds", FallsBoundsTest::two, -999, 999, BAD, (x, v) -> x.odds(0, 50, 5, 0, v, 1));
        due.says("A part of a fraction: 0 above the line, 1 below it");
        bounds.ends("part of odds", FallsBoundsTest::two, 0, 1, BAD, (x, v) -> x.odds(0, 50, 5, 0, 0, v));
    }

    /** Falls of which those at 1 to 17 go one way, those at 19 to 35 the other, and 0 and 18 straight down. */
    private static FallCards three(int... weights) {
        FallCards x = lifting();
        x.hand(2, 9);
        for (int i = 0; i < 5; i++) {
            x.hand(i, i == 2 && weights[2] == 0 ? 1 : weights[i]);
        }
        if (weights[2] == 0) {
            x.hand(2, 0);
        }
        return x;
    }

    private static void oddsOfHand() {
        due.says("HAND i (0 to 4): the SLANT is i less 2 more (modulo 36), with odds of its WEIGHT by all");
        for (int i = 0; i < 5; i++) {
            int[] weights = new int[5];
            weights[i] = 9;
            FallCards x = three(weights);
            due.is("all of one", x.many(4), 9);
            for (int slant = 0; slant < 36; slant++) {
                int by = (slant + i + 34) % 36;
                int square = by >= 19 ? -1 : 0;
                due.is("at " + slant + " by hand " + i, x.odds(0, 36, slant, 0, square, 0), 1);
                due.is("elsewhere", x.odds(0, 36, slant, 0, -1 - square, 0), 0);
                due.is("elsewhere, below the line", x.odds(0, 36, slant, 0, -1 - square, 1), 1);
            }
        }
        due.says("(one that doesn't LAND counts as elsewhere)");
        FallCards slow = one(5, 1, 0);
        slow.card(1, 8, 1, 0);
        due.is("a winged one of weight 1 stays up", slow.fall(0, 1, 0, 0, 0), NO);
        for (int square = -1; square <= 1; square++) {
            due.is("nowhere", slow.odds(0, 1, 0, 0, square, 0), 0);
            due.is("nowhere, below the line", slow.odds(0, 1, 0, 0, square, 1), 1);
        }
        due.is("the other lands", slow.odds(1, 1, 0, 0, 0, 0), 1);
        partlyLanding();
    }

    /** Of five hands those that land are told from those that don't. */
    private static void partlyLanding() {
        FallCards x = new FallCards();
        x.card(5, 2, 1, 0);
        for (int law = 0; law < 6; law++) {
            x.set(law, law == 5 ? 32 : law == 2 ? 63 : 0);
        }
        for (int i = 0; i < 5; i++) {
            x.hand(i, 1 + i);
        }
        for (int slant = 0; slant < 36; slant++) {
            int above = 0;
            for (int i = 0; i < 5; i++) {
                int square = x.fall(0, 2, (slant + i + 34) % 36, 0, 5);
                above += square == 0 ? 1 + i : 0;
            }
            int part = x.odds(0, 2, slant, 0, 0, 0);
            due.is("those that land at " + slant, part * 15, above * x.odds(0, 2, slant, 0, 0, 1));
        }
    }

    private static void fractions() {
        due.says("without a common divisor, below above 0 (0 is 0 by 1)");
        // Slants 34, 35 are below square 0; 0, 1, 2 are in it.
        for (int a = 0; a <= 9; a++) {
            for (int b = 0; b <= 9; b++) {
                if (a + b > 0) {
                    FallCards x = three(a, 0, b, 0, 0);
                    int common = b == 0 ? a : a == 0 ? b : commonOf(b, a + b);
                    due.is(b + " of " + (a + b) + ", above", x.odds(0, 36, 0, 0, 0, 0), b / common);
                    due.is(b + " of " + (a + b) + ", below", x.odds(0, 36, 0, 0, 0, 1), (a + b) / common);
                }
            }
        }
        FallCards x = three(9, 9, 9, 9, 9);
        due.is("27 of 45, above", x.odds(0, 36, 0, 0, 0, 0), 3);
        due.is("27 of 45, below", x.odds(0, 36, 0, 0, 0, 1), 5);
        due.is("45 of 45, above", x.odds(0, 36, 9, 0, 0, 0), 1);
        due.is("45 of 45, below", x.odds(0, 36, 9, 0, 0, 1), 1);
        due.is("0 of 45, above", x.odds(0, 36, 9, 0, -1, 0), 0);
        due.is("0 of 45, below", x.odds(0, 36, 9, 0, -1, 1), 1);
        FallCards y = three(9, 9, 9, 9, 8);
        due.is("26 of 44, above", y.odds(0, 36, 0, 0, 0, 0), 13);
        due.is("26 of 44, below", y.odds(0, 36, 0, 0, 0, 1), 22);
        due.is("18 of 44, above", y.odds(0, 36, 0, 0, -1, 0), 9);
        due.is("18 of 44, below", y.odds(0, 36, 0, 0, -1, 1), 22);
    }

    private static int commonOf(int a, int b) {
        int d = Math.min(a, b);
        while (a % d != 0 || b % d != 0) {
            d--;
        }
        return d;
    }

    private static void aimNumbers() {
        due.says("AIM. BAD; NONE: none LANDS there");
        bounds.ends("square of an aim", FallsBoundsTest::two, -999, 999, BAD, (x, v) -> x.aim(0, 50, 0, v));
        bounds.refused("NONE", FallsBoundsTest::two, NONE, x -> x.aim(0, 50, 0, 1));
        bounds.refused("NONE, if none lands", () -> one(5, 1, 0), NONE, x -> x.aim(0, 1, 0, 0));
        int[][] bad = {{2, 50, 0, 1}, {0, 0, 0, 1}, {0, 10000, 0, 1}, {0, 50, 10, 1}, {0, 50, -10, 1}};
        for (int[] b : bad) {
            bounds.refused("BAD ahead of NONE", FallsBoundsTest::two, BAD, x -> x.aim(b[0], b[1], b[2], b[3]));
        }
    }

    private static void aimOfSeveral() {
        due.says("the SLANT of 0 to 35 with the greatest ODDS, of several the least");
        // Square -1 takes slants 19 to 35, square 0 the others; by hands 0 and 1 slant 0 comes from 34 and 35.
        int[] least = {0, 0, 19, 18, 17};
        for (int i = 0; i < 5; i++) {
            int[] weights = new int[5];
            weights[i] = 1;
            FallCards x = three(weights);
            due.is("at -1 by hand " + i, x.aim(0, 36, 0, -1), least[i]);
            due.is("at 0 by hand " + i, x.aim(0, 36, 0, 0), Math.max(0, 2 - i));
        }
        due.is("the first that is sure", three(1, 1, 1, 1, 1).aim(0, 36, 0, -1), 21);
        due.is("the first that is sure of 0", three(1, 1, 1, 1, 1).aim(0, 36, 0, 0), 2);
        due.is("all alike", Stage.plainSteady().aim(0, 36, 0, 0), 0);
        FallCards x = lifting();
        for (int i = 0; i < 5; i++) {
            due.is("34 alone, by hand " + i, aimedWhere34Lands(i), (34 - i + 2) % 36);
        }
        due.is("greater odds of a later slant", three(0, 0, 1, 9, 0).aim(0, 36, 0, -1), 19);
        due.is("greater odds of the next slant", three(0, 0, 9, 1, 0).aim(0, 36, 0, -1), 19);
        due.is("18 has the 9 alone", three(0, 0, 0, 9, 0).aim(0, 36, 0, -1), 18);
        due.is("a steady one at 0", x.aim(0, 36, 0, 0), 0);
    }

    /** A righted card let go at 34 is lifted by one tick alone, and lands where none else does. */
    private static int aimedWhere34Lands(int i) {
        FallCards x = Due.plain();
        x.card(4, 99, 1, 0);
        x.set(0, 63);
        x.hand(i, 1);
        if (i != 2) {
            x.hand(2, 0);
        }
        return x.aim(0, 9999, 0, x.fall(0, 9999, 34, 0, 5));
    }

    private static void longest() {
        due.says("LONGEST: the CARD that is up most TICKS (one that doesn't LAND 400), of several the first. BAD; NONE: there are no CARDS");
        bounds.refused("no cards", Stage::fresh, NONE, x -> x.longest(1, 0, 0));
        int[][] bad = {{0, 0, 0}, {10000, 0, 0}, {9, -1, 0}, {9, 36, 0}, {9, 0, -10}, {9, 0, 10}};
        for (int[] b : bad) {
            bounds.refused("BAD ahead of NONE", Stage::fresh, BAD, x -> x.longest(b[0], b[1], b[2]));
        }
        int[] weights = {30, 20, 30, 20, 10, 10};
        FallCards x = Due.plain();
        int[] want = {0, 1, 1, 1, 4, 4};
        for (int i = 0; i < 6; i++) {
            x.card(1, weights[i], 1, 0);
            due.is("of " + (i + 1) + " cards", x.longest(999, 0, 0), want[i]);
        }
        due.is("all alike in one tick", x.longest(1, 0, 0), 0);
        FallCards y = Due.plain();
        y.card(1, 2, 1, 0);
        y.card(1, 1, 1, 0);
        y.card(5, 1, 1, 0);
        due.is("399 ticks are fewer than 400", y.longest(9800, 0, 0), 2);
        due.is("400 ticks are as many as one that doesn't land", y.longest(9850, 0, 0), 1);
        due.is("two that don't land", y.longest(9851, 0, 0), 1);
        FallCards last = Due.plain();
        for (int i = 0; i < 6; i++) {
            last.card(1, 99 - i * 15, 1, 0);
        }
        due.is("the sixth", last.longest(9999, 0, 0), 5);
    }

    private static void filmRefusals() {
        due.says("BAD: also no such SHEET, LAW; -11; -13");
        bounds.ends("sheet of fit", FallsBoundsTest::films, 0, 3, BAD, (x, v) -> x.fit(0, 50, 0, 0, v, 0));
        bounds.ends("sheet of miss", FallsBoundsTest::films, 0, 3, BAD, (x, v) -> x.miss(0, 50, 0, 0, v));
        bounds.ends("law of fit", FallsBoundsTest::films, 0, 5, BAD, (x, v) -> x.fit(0, 50, 0, 0, 2, v));
        bounds.ends("law of fit, of a sheet that is missing", FallsBoundsTest::two, 0, 5, BAD, (x, v) -> x.fit(0, 50, 0, 0, 0, v));
        bounds.ends("law of fit, of another sort", Stage::sheets, 0, 5, BAD, (x, v) -> x.fit(0, 50, 0, 0, 3, v));
        int[][] bad = {{1, 50, 0, 0}, {0, 0, 0, 0}, {0, 50, 36, 0}, {0, 50, 0, 10}};
        for (int sort = 0; sort < 4; sort++) {
            int s = sort;
            int want = sort == 2 ? 0 : -13;
            bounds.refused("miss of sort " + sort, Stage::sheets, sort == 2 ? 9 : -13, x -> x.miss(0, 50, 0, 0, s));
            due.is("fit of sort " + sort, Math.min(0, Stage.sheets().fit(0, 50, 0, 0, s, 0)), want);
            bounds.refused("miss of a new object's sheet " + sort, FallsBoundsTest::noSheets, -11, x -> x.miss(0, 50, 0, 0, s));
            bounds.refused("fit of a new object's sheet " + sort, FallsBoundsTest::noSheets, -11, x -> x.fit(0, 50, 0, 0, s, 5));
            for (int[] b : bad) {
                bounds.refused("BAD ahead of -13, miss", Stage::sheets, BAD, x -> x.miss(b[0], b[1], b[2], b[3], s));
                bounds.refused("BAD ahead of -13, fit", Stage::sheets, BAD, x -> x.fit(b[0], b[1], b[2], b[3], s, 0));
                bounds.refused("BAD ahead of -11, miss", FallsBoundsTest::noSheets, BAD, x -> x.miss(b[0], b[1], b[2], b[3], s));
                bounds.refused("BAD ahead of -11, fit", FallsBoundsTest::noSheets, BAD, x -> x.fit(b[0], b[1], b[2], b[3], s, 0));
            }
        }
        FallCards gone = films();
        gone.sheet(2, -1, 0);
        due.is("a film that is missing again", gone.miss(0, 50, 0, 0, 2), -11);
    }

    private static FallCards noSheets() {
        FallCards x = new FallCards();
        x.card(1, 8, 1, 0);
        return x;
    }

    private static FallCards films() {
        FallCards x = two();
        for (int s = 0; s < 4; s++) {
            x.sheet(s, 2, 2);
        }
        return x;
    }

    /** Blown by 8 a tick: across is 1, 3, 6, 10, .. less than 0. */
    private static FallCards filmed(int... film) {
        FallCards x = Stage.plainSteady();
        x.set(5, 0);
        x.sheet(1, 2, film.length);
        for (int i = 0; i < film.length; i++) {
            x.put(1, i, film[i]);
        }
        return x;
    }

    private static void missAsFar() {
        due.says("MISS: the sum of what a FALL is off by, without sign, as far as both go");
        due.is("not off", filmed(-1, -3, -6).miss(0, 999, 0, 0, 1), 0);
        due.is("off both ways", filmed(-2, -2, -6).miss(0, 999, 0, 0, 1), 2);
        due.is("an empty film", filmed().miss(0, 999, 0, 0, 1), 0);
        due.is("one number", filmed(4).miss(0, 999, 0, 0, 1), 5);
        int[] forty = new int[40];
        java.util.Arrays.fill(forty, 7);
        int sum = 0;
        for (int n = 1; n <= 40; n++) {
            sum += 7 + n * (n + 1) / 2;
            due.is("a fall of " + n + " ticks", filmed(forty).miss(0, n * (n + 1) / 2, 0, 0, 1), sum);
            due.is("a film of " + n, filmed(java.util.Arrays.copyOf(forty, n)).miss(0, 9999, 0, 0, 1), sum);
        }
        due.is("the film ends ahead of the fall", filmed(forty).miss(0, 9999, 0, 0, 1), sum);
        FallCards x = one(5, 1, 0);
        x.sheet(0, 2, 40);
        x.put(0, 39, -6);
        due.is("a fall that doesn't land", x.miss(0, 1, 0, 0, 0), 6);
    }

    private static void missAtMost() {
        due.says("(999999999 at most)");
        int max = Integer.MAX_VALUE;
        int min = Integer.MIN_VALUE;
        int[][] films = {{999999996, -4}, {999999997, -4}, {999999998, -4}, {999999999, -3}, {max, -3}, {min, -3}, {max, max}, {min, min},
            {max, min}};
        int[] want = {999999998, 999999999, 999999999, 999999999, 999999999, 999999999, 999999999, 999999999, 999999999};
        for (int i = 0; i < films.length; i++) {
            due.is("film " + i, filmed(films[i]).miss(0, 999, 0, 0, 1), want[i]);
        }
        int[] forty = new int[40];
        java.util.Arrays.fill(forty, min);
        due.is("forty of the least", filmed(forty).miss(0, 9999, 0, 0, 1), 999999999);
        java.util.Arrays.fill(forty, max);
        due.is("forty of the greatest", filmed(forty).miss(0, 9999, 0, 0, 1), 999999999);
        // Two of 2^31 would be 0, if they were ints that wrap.
        due.is("twice -2^31 less", filmed(min, min, -6).miss(0, 999, 0, 0, 1), 999999999);
        due.is("fit, all at most", filmed(min, min).fit(0, 999, 0, 0, 1, 5), 0);
        due.is("fit, all but some at most", filmed(999999999, -3).fit(0, 999, 0, 0, 1, 5), 0);
    }

    private static void fitOfSeveral() {
        due.says("FIT of a LAW: its number (0 to 63) with the least MISS, of several the least");
        for (int wind = 0; wind < 64; wind++) {
            FallCards x = Stage.plainSteady();
            x.set(5, wind);
            x.letGo(0, 9999, 0, 0);
            x.sheet(0, 2, 20);
            for (int i = 0; i < 20; i++) {
                x.tick(1);
                x.put(0, i, x.air(2));
            }
            x.set(5, 63 - wind);
            // Winds that blow alike, by 4 and cut towards 0, fit alike: the least of these.
            int least = wind <= 28 ? (wind + 3) / 4 * 4 - 3 : wind <= 35 ? 29 : wind / 4 * 4;
            due.is("wind " + wind, x.fit(0, 9999, 0, 0, 0, 5), Math.max(0, least));
            due.is("the law stays", x.set(5, 1), 63 - wind);
        }
        FallCards far = filmed(9999, 9999, 9999, 9999, 9999, 9999, 9999, 9999, 9999);
        due.is("the greatest fits best", far.fit(0, 999, 0, 0, 1, 5), 60);
        FallCards x = Stage.plainSteady();
        x.sheet(0, 2, 6);
        for (int law = 0; law < 5; law++) {
            due.is("a law that counts nothing, " + law, x.fit(0, 999, 0, 0, 0, law), 0);
        }
        due.is("an empty film fits all", filmed().fit(0, 999, 0, 0, 1, 5), 0);
        // Lift 63 alone comes so far: 63 is tried, too.
        FallCards lift = Stage.plainSteady();
        lift.set(0, 63);
        lift.letGo(0, 9999, 9, 0);
        lift.sheet(0, 2, 40);
        for (int i = 0; i < 40; i++) {
            lift.tick(1);
            lift.put(0, i, lift.air(2));
        }
        lift.set(0, 0);
        due.is("lift 63", lift.fit(0, 9999, 9, 0, 0, 0), 63);
    }

    private static void thrown() {
        due.says("HAND is the first i with (z >>> 16) modulo all WEIGHTS below WEIGHTS 0 to i together");
        // Five squares of their own: a righted card goes far across, another way from each slant.
        int[][] hands = {{1, 1, 1, 1, 1}, {0, 1, 0, 2, 0}, {9, 0, 0, 0, 1}, {0, 0, 0, 0, 3}, {2, 0, 0, 0, 0}, {9, 9, 9, 9, 9}, {0, 0, 5, 0, 2}};
        for (int[] hand : hands) {
            FallCards x = three(hand);
            x.set(0, 63);
            int all = hand[0] + hand[1] + hand[2] + hand[3] + hand[4];
            int z = 1;
            for (int n = 0; n < 50; n++) {
                z = z * 1103515245 + 12345;
                int pick = (z >>> 16) % all;
                int i = 0;
                while (pick >= hand[i]) {
                    pick -= hand[i];
                    i++;
                }
                due.is("throw " + n, x.toss(0, 2000, 4, 0), x.fall(0, 2000, 2 + i, 0, 5));
            }
            due.is("z behind fifty throws", x.seed(0), z);
        }
        FallCards x = three(1, 1, 1, 1, 1);
        x.set(0, 63);
        for (int slant = 2; slant < 6; slant++) {
            due.is("squares of their own", x.fall(0, 2000, slant, 0, 5) < x.fall(0, 2000, slant + 1, 0, 5) ? 1 : 0, 1);
        }
    }

    private static void thrownGoesRound() {
        due.says("z (an int) becomes z * 1103515245 + 12345 (ints that wrap); the SLANT modulo 36");
        int[] seeds = {Integer.MIN_VALUE, Integer.MAX_VALUE, -1, 0, 1, 2, 1 << 30, -12345};
        for (int seed : seeds) {
            FallCards x = three(3, 2, 1, 2, 3);
            x.set(0, 63);
            x.seed(seed);
            for (int slant : new int[] {0, 1, 34, 35}) {
                int z = x.seed(0);
                x.seed(z);
                long wide = (z * 1103515245L + 12345L) & 0xFFFFFFFFL;
                int pick = (int) ((wide >> 16) % 11);
                int i = pick < 3 ? 0 : pick < 5 ? 1 : pick < 6 ? 2 : pick < 8 ? 3 : 4;
                due.is("from " + z, x.toss(0, 2000, slant, 0), x.fall(0, 2000, (slant + i + 34) % 36, 0, 5));
                int behind = x.seed(0);
                x.seed(behind);
                due.is("z behind " + z, behind & 0xFFFFFFFFL, wide);
            }
        }
        due.says("NO: not as told, or it doesn't LAND (z goes on then, too, if all is as told)");
        FallCards y = one(5, 1, 0);
        for (int seed : seeds) {
            y.seed(seed);
            due.is("it doesn't land", y.toss(0, 1, 0, 0), NO);
            due.is("z goes on", y.seed(seed), seed * 1103515245 + 12345);
            int[][] bad = {{1, 1, 0, 0}, {-1, 1, 0, 0}, {0, 0, 0, 0}, {0, 10000, 0, 0}, {0, 1, 36, 0}, {0, 1, -1, 0}, {0, 1, 0, 10}, {0, 1, 0, -10}};
            for (int[] b : bad) {
                due.is("not as told", y.toss(b[0], b[1], b[2], b[3]), NO);
            }
            due.is("z stays then", y.seed(0), seed);
        }
    }

    private static void seed() {
        due.says("z becomes v: what it was");
        FallCards x = new FallCards();
        int was = 1;
        for (int v : new int[] {0, -1, Integer.MIN_VALUE, Integer.MAX_VALUE, 7, 7}) {
            due.is("seed " + v, x.seed(v), was);
            was = v;
        }
    }

    private static void asking() {
        due.says("what is asked of falls changes nothing");
        FallCards r = Stage.rich();
        int ticks = r.fall(0, 100, 3, 1, 0);
        bounds.asks("fall", Stage::rich, x -> x.fall(0, 100, 3, 1, 0), ticks);
        bounds.asks("line", Stage::rich, x -> x.line(0, 100, 3, 1, 0), r.line(0, 100, 3, 1, 0));
        bounds.asks("parted", Stage::rich, x -> x.parted(2, 500, 3, 1, 1), r.parted(2, 500, 3, 1, 1));
        bounds.asks("odds", Stage::rich, x -> x.odds(0, 100, 3, 1, 0, 1), r.odds(0, 100, 3, 1, 0, 1));
        bounds.asks("aim", Stage::rich, x -> x.aim(0, 100, 1, 0), r.aim(0, 100, 1, 0));
        bounds.asks("longest", Stage::rich, x -> x.longest(100, 3, 1), r.longest(100, 3, 1));
        bounds.asks("fit", Stage::rich, x -> x.fit(0, 100, 3, 1, 2, 0), r.fit(0, 100, 3, 1, 2, 0));
        bounds.asks("miss", Stage::rich, x -> x.miss(0, 100, 3, 1, 2), r.miss(0, 100, 3, 1, 2));
    }
}
