/** Promises 13 to 22 by hand: fall, line, parted, odds, aim, longest, fit, miss, toss, seed. */
public final class FallsTest {
    private static final Due due = new Due();
    private static final int NO = FallCards.NO;
    private static final int[][] BAD_STARTS = {{1, 9, 0, 0}, {-1, 9, 0, 0}, {0, 0, 0, 0}, {0, 10000, 0, 0}, {0, 9, -1, 0},
        {0, 9, 36, 0}, {0, 9, 0, -10}, {0, 9, 0, 10}, {Integer.MIN_VALUE, 9, 0, 0}, {0, 9, Integer.MAX_VALUE, 0}};

    public static void main(String[] args) {
        fall();
        sorts();
        line();
        parted();
        odds();
        aim();
        longest();
        film();
        toss();
        due.end("FallsTest");
    }

    private static FallCards with(int kind, int weight) {
        FallCards x = Due.plain();
        x.card(kind, weight, 1, 0);
        return x;
    }

    private static void fall() {
        FallCards x = with(1, 8);
        for (int[] b : BAD_STARTS) {
            due.is("fall not as told", x.fall(b[0], b[1], b[2], b[3], 0), NO);
        }
        due.is("what 6", x.fall(0, 9, 0, 0, 6), NO);
        due.is("what -1", x.fall(0, 9, 0, 0, -1), NO);
        for (int n = 1; n < 100; n++) {
            due.is("ticks from " + n * (n + 1) / 2, x.fall(0, n * (n + 1) / 2, 0, 0, 0), n);
        }
        due.is("ticks from 7", x.fall(0, 7, 0, 0, 0), 4);
        due.is("nothing came into the air", x.air(0), NO);
        // With weight 1 the k-th tick falls k by 8: 9850 in 400 of them.
        FallCards slow = with(1, 1);
        due.is("lands in the 400th", slow.fall(0, 9850, 0, 0, 0), 400);
        due.is("hasn't landed", slow.fall(0, 9851, 0, 0, 0), NO);
        x.set(5, 0);
        due.is("across -1", x.fall(0, 1, 0, 0, 1), -1);
        due.is("square of -1", x.fall(0, 1, 0, 0, 5), -1);
        due.is("across of two", x.fall(0, 3, 0, 0, 1), -3);
        due.is("across of 14", x.fall(0, 105, 0, 0, 1), -105);
        due.is("square of -105", x.fall(0, 105, 0, 0, 5), -2);
        // 1 + 2 + .. + 24 is 300
        due.is("square of -300", x.fall(0, 300, 0, 0, 5), -3);
        x.set(5, 63);
        due.is("across of 7 ticks", x.fall(0, 28, 0, 0, 1), 21);
        due.is("square of 21", x.fall(0, 28, 0, 0, 5), 0);
    }

    private static void sorts(String name, FallCards x, int[] start, int swings, int rounds) {
        due.is(name + " swings", x.fall(0, start[0], start[1], start[2], 2), swings);
        due.is(name + " rounds", x.fall(0, start[0], start[1], start[2], 3), rounds);
        due.is(name + " sort", x.fall(0, start[0], start[1], start[2], 4), (swings > 0 ? 1 : 0) + (rounds > 0 ? 2 : 0));
    }

    private static void sorts() {
        FallCards s = with(2, 8);
        sorts("swinging 9, 10, 9", s, new int[] {3, 9, 1}, 1, 0);
        sorts("the turn let go with counts nothing", s, new int[] {1, 10, 1}, 0, 0);
        sorts("from 10 down to 9 and on", s, new int[] {3, 10, 1}, 0, 0);
        // 9, 10, then down to 0 by tick 11, 35 behind tick 12, 26 behind tick 21, 27 behind tick 22
        sorts("down and through", s, new int[] {12 * 13 / 2, 9, 1}, 1, 1);
        sorts("down, through, to 26", s, new int[] {21 * 22 / 2, 9, 1}, 1, 1);
        sorts("down, through, back", s, new int[] {22 * 23 / 2, 9, 1}, 2, 1);
        FallCards f = with(0, 8);
        sorts("even", f, new int[] {3, 5, 1}, 0, 0);
        sorts("35 to 0", f, new int[] {1, 35, 1}, 0, 1);
        sorts("0 to 35", f, new int[] {1, 0, -1}, 0, 1);
        sorts("27 to 0", f, new int[] {1, 27, 9}, 0, 1);
        sorts("26 to 35", f, new int[] {1, 26, 9}, 0, 0);
        sorts("35 to 8", f, new int[] {1, 35, 9}, 0, 1);
        sorts("8 to 35", f, new int[] {1, 8, -9}, 0, 1);
        sorts("9 to 0", f, new int[] {1, 9, -9}, 0, 0);
        sorts("0 to 27", f, new int[] {1, 0, -9}, 0, 1);
        sorts("nine rounds of four ticks", f, new int[] {36 * 37 / 2, 0, 9}, 0, 9);
        FallCards r = with(4, 8);
        sorts("righted comes to rest", r, new int[] {36 * 37 / 2, 18, 9}, 0, 0);
        sorts("righted from behind", r, new int[] {36 * 37 / 2, 19, 9}, 0, 1);
    }

    private static void line() {
        FallCards x = with(1, 99);
        for (int[] b : BAD_STARTS) {
            due.is("line not as told", x.line(b[0], b[1], b[2], b[3], 0), -1);
        }
        due.is("sort 4", x.line(0, 9, 0, 0, 4), -1);
        due.is("sort -1", x.line(0, 9, 0, 0, -1), -1);
        due.is("least weight that lands", x.line(0, 9851, 0, 0, 0), 2);
        due.is("least weight", x.line(0, 9850, 0, 0, 0), 1);
        for (int sort = 1; sort < 4; sort++) {
            due.is("a steady one has sort 0", x.line(0, 9850, 0, 0, sort), -3);
        }
        due.is("the weight stays", x.cardOf(0, 1), 99);
        due.is("the weight stays in falls", x.fall(0, 12, 0, 0, 0), 1);
        FallCards f = with(0, 8);
        // The 8th tick makes the round: it is even, if k * w by 8, of k from 1 to 7, are 36 together: 35 with 11, 40 with 12.
        due.is("turning line", f.line(0, 36, 28, 1, 2), 1);
        // Three ticks ahead of the round fall 12, 24 and 37 with weight 99, 12, 24 and 36 with 98.
        due.is("the greatest weight", f.line(0, 73, 32, 1, 0), 99);
        due.is("none is heavy enough", f.line(0, 74, 32, 1, 0), -3);
        due.is("even line", f.line(0, 36, 28, 1, 0), 12);
    }

    private static void parted() {
        FallCards x = with(1, 8);
        for (int[] b : BAD_STARTS) {
            due.is("parted not as told", x.parted(b[0], b[1], b[2], b[3], 0), -1);
        }
        due.is("far -1", x.parted(0, 9, 0, 0, -1), -1);
        due.is("far 10000", x.parted(0, 9, 0, 0, 10000), -1);
        due.is("without lift never", x.parted(0, 9999, 0, 0, 0), -3);
        x.set(0, 32);
        // At 0 it goes straight down; at 1 side is 0, 1, 3, 7, 12, 18 behind ticks 1 to 6: across 0, 0, 0, 0, 1, 3.
        due.is("parted by 0", x.parted(0, 9999, 0, 0, 0), 5);
        due.is("parted by 1", x.parted(0, 9999, 0, 0, 1), 6);
        due.is("parted by 2", x.parted(0, 9999, 0, 0, 2), 6);
        due.is("parted by 3", x.parted(0, 9999, 0, 0, 3), 7);
        due.is("landing in it counts", x.parted(0, 15, 0, 0, 0), 5);
        due.is("landed ahead of it", x.parted(0, 10, 0, 0, 0), -3);
        due.is("35 and 0", x.parted(0, 9999, 35, 0, 0), 5);
        FallCards slow = with(1, 1);
        slow.set(0, 1);
        slow.letGo(0, 9999, 1, 0);
        slow.tick(399);
        int ahead = slow.air(2);
        slow.tick(1);
        due.is("it goes on across", slow.air(2) > ahead ? 1 : 0, 1);
        due.is("parted by the 400th tick", slow.parted(0, 9999, 0, 0, ahead), 400);
        due.is("not parted in 400", slow.parted(0, 9999, 0, 0, slow.air(2)), -3);
        due.is("far 9999", x.parted(0, 10, 0, 0, 9999), -3);
    }

    /** Slants 0 to 18 lift one way, the others the other way. */
    private static FallCards handy() {
        FallCards x = with(1, 8);
        x.set(0, 32);
        for (int i = 0; i < 5; i++) {
            x.hand(i, new int[] {1, 2, 3, 2, 4}[i]);
        }
        return x;
    }

    private static void odds() {
        FallCards x = handy();
        for (int[] b : BAD_STARTS) {
            due.is("odds not as told", x.odds(b[0], b[1], b[2], b[3], 0, 0), -1);
        }
        due.is("square 1000", x.odds(0, 9, 0, 0, 1000, 0), -1);
        due.is("square -1000", x.odds(0, 9, 0, 0, -1000, 0), -1);
        due.is("part 2", x.odds(0, 9, 0, 0, 0, 2), -1);
        due.is("part -1", x.odds(0, 9, 0, 0, 0, -1), -1);
        // Behind 6 ticks slants 34 and 35 are below 0, 0 to 2 are not.
        due.is("below 0, above", x.odds(0, 21, 0, 0, -1, 0), 1);
        due.is("below 0, below", x.odds(0, 21, 0, 0, -1, 1), 4);
        due.is("not below 0, above", x.odds(0, 21, 0, 0, 0, 0), 3);
        due.is("not below 0, below", x.odds(0, 21, 0, 0, 0, 1), 4);
        due.is("from 35", x.odds(0, 21, 35, 0, 0, 0), 1);
        due.is("from 35, below", x.odds(0, 21, 35, 0, 0, 1), 2);
        due.is("0 by 1", x.odds(0, 21, 0, 0, 999, 0), 0);
        due.is("0 by 1, below", x.odds(0, 21, 0, 0, -999, 1), 1);
        due.is("sure", x.odds(0, 1, 0, 0, 0, 0), 1);
        due.is("sure, below", x.odds(0, 1, 0, 0, 0, 1), 1);
        FallCards slow = with(1, 1);
        due.is("elsewhere, if it doesn't land", slow.odds(0, 9851, 0, 0, 0, 0), 0);
        due.is("else there", slow.odds(0, 9850, 0, 0, 0, 0), 1);
    }

    private static void aim() {
        FallCards x = handy();
        int[][] bad = {{1, 9, 0}, {-1, 9, 0}, {0, 0, 0}, {0, 10000, 0}, {0, 9, 10}, {0, 9, -10}};
        for (int[] b : bad) {
            due.is("aim not as told", x.aim(b[0], b[1], b[2], 0), -1);
        }
        due.is("square 1000", x.aim(0, 9, 0, 1000), -1);
        due.is("square -1000", x.aim(0, 9, 0, -1000), -1);
        due.is("no such square", x.aim(0, 21, 0, 999), -3);
        // All of slants 0 to 18 land on 0 and all of 19 to 35 on -1: the first that is sure.
        due.is("aim at 0", x.aim(0, 21, 0, 0), 2);
        due.is("aim at -1", x.aim(0, 21, 0, -1), 21);
        due.is("of several the least", x.aim(0, 1, 0, 0), 0);
        FallCards slow = with(1, 1);
        due.is("none lands", slow.aim(0, 9851, 0, 0), -3);
        due.is("all land", slow.aim(0, 9850, 0, 0), 0);
    }

    private static void longest() {
        FallCards x = Due.plain();
        due.is("BAD ahead of NONE", x.longest(0, 0, 0), -1);
        due.is("no cards", x.longest(1, 0, 0), -3);
        x.card(1, 8, 1, 0);
        x.card(1, 1, 1, 0);
        x.card(4, 1, 1, 0);
        x.card(5, 1, 1, 0);
        int[][] bad = {{0, 0, 0}, {10000, 0, 0}, {9, -1, 0}, {9, 36, 0}, {9, 0, -10}, {9, 0, 10}};
        for (int[] b : bad) {
            due.is("longest not as told", x.longest(b[0], b[1], b[2]), -1);
        }
        due.is("winged never lands", x.longest(100, 0, 0), 3);
        due.is("400 by landing and by not landing are the same", x.longest(9850, 0, 0), 1);
        due.is("the first of several", x.longest(9851, 0, 0), 1);
        due.is("the air stays", x.air(0), NO);
    }

    private static void film() {
        FallCards x = with(1, 8);
        x.set(5, 40);
        // side is 2, 4, 6, 8, 10: across 0, 0, 0, 1, 2
        for (int[] b : BAD_STARTS) {
            due.is("miss not as told", x.miss(b[0], b[1], b[2], b[3], 0), -1);
            due.is("fit not as told", x.fit(b[0], b[1], b[2], b[3], 0, 0), -1);
        }
        due.is("miss of a sheet that is missing", x.miss(0, 9, 0, 0, 0), -11);
        due.is("fit of a sheet that is missing", x.fit(0, 9, 0, 0, 0, 0), -11);
        due.is("no sheet 4", x.miss(0, 9, 0, 0, 4), -1);
        due.is("no sheet -1", x.miss(0, 9, 0, 0, -1), -1);
        due.is("no sheet 4 to fit", x.fit(0, 9, 0, 0, 4, 0), -1);
        due.is("no law 6", x.fit(0, 9, 0, 0, 0, 6), -1);
        due.is("no law -1", x.fit(0, 9, 0, 0, 0, -1), -1);
        for (int sort = 0; sort < 4; sort++) {
            x.sheet(1, sort, 3);
            due.is("miss of sort " + sort, x.miss(0, 9, 0, 0, 1), sort == 2 ? 0 : -13);
            due.is("fit of sort " + sort, x.fit(0, 9, 0, 0, 1, 0), sort == 2 ? 0 : -13);
            due.is("BAD first", x.fit(0, 9, 0, 0, 1, 6), -1);
        }
        x.sheet(0, 2, 5);
        int[] want = {3, -1, 0, 1, 2};
        for (int i = 0; i < 5; i++) {
            x.put(0, i, want[i]);
        }
        due.is("miss", x.miss(0, 999, 0, 0, 0), 4);
        due.is("as far as the fall goes", x.miss(0, 1, 0, 0, 0), 3);
        due.is("as far as the film goes", x.miss(0, 9999, 0, 0, 0), 4);
        due.is("fit wind", x.fit(0, 999, 0, 0, 0, 5), 40);
        due.is("fit of a law that counts nothing", x.fit(0, 999, 0, 0, 0, 4), 0);
        due.is("the law stays", x.set(5, 40), 40);
        x.put(0, 0, 999999995);
        due.is("miss of 999999995 and 1", x.miss(0, 999, 0, 0, 0), 999999996);
        x.put(0, 1, -4);
        due.is("miss of just 999999999", x.miss(0, 999, 0, 0, 0), 999999999);
        x.put(0, 1, -5);
        due.is("miss of one more", x.miss(0, 999, 0, 0, 0), 999999999);
        x.put(0, 1, Integer.MIN_VALUE);
        x.put(0, 0, Integer.MIN_VALUE);
        due.is("miss of very much", x.miss(0, 999, 0, 0, 0), 999999999);
        due.is("fit of very much", x.fit(0, 999, 0, 0, 0, 5), 0);
        x.sheet(0, 2, 0);
        due.is("miss of an empty film", x.miss(0, 999, 0, 0, 0), 0);
        due.is("fit of an empty film", x.fit(0, 999, 0, 0, 0, 5), 0);
    }

    private static void toss() {
        FallCards x = handy();
        for (int[] b : BAD_STARTS) {
            due.is("toss not as told", x.toss(b[0], b[1], b[2], b[3]), NO);
        }
        due.is("z stays then", x.seed(0), 1);
        int z = 0;
        int below = 0;
        for (int i = 0; i < 60; i++) {
            z = z * 1103515245 + 12345;
            // Hands 0 and 1, of weights 1 and 2 of 12, are those whose slants are below 0.
            int want = (z >>> 16) % 12 < 3 ? -1 : 0;
            below += want;
            due.is("toss " + i, x.toss(0, 21, 0, 0), want);
        }
        due.is("both came", below < 0 && below > -60 ? 1 : 0, 1);
        due.is("z goes on", x.seed(Integer.MIN_VALUE), z);
        due.is("any seed", x.seed(5), Integer.MIN_VALUE);
        FallCards slow = with(1, 1);
        due.is("it doesn't land", slow.toss(0, 9851, 0, 0), NO);
        due.is("z goes on then, too", slow.seed(1), 1103515245 + 12345);
    }
}
