import java.util.Random;

/**
 * Any calls with any arguments: none throws, and one that is refused changes nothing, so that an object for which it was
 * left out answers all later calls alike.
 */
public final class EveryCallTest {
    private static final Due due = new Due();
    private static Random random = new Random(36);
    private static final int[] EDGES = {Integer.MIN_VALUE, Integer.MIN_VALUE + 1, -10000, -1000, -999, -10, -9, -5, -4, -2, -1, 0, 1,
        2, 3, 4, 5, 6, 9, 10, 13, 20, 21, 35, 36, 40, 41, 63, 64, 99, 100, 400, 401, 999, 1000, 9999, 10000, Integer.MAX_VALUE};
    private static final String[] WORDS = {"fall ", "steady ", "swinging ", "turning ", "righted ", "winged ", "wide ", "clip ", "- ",
        "; ", "hand ", "lift ", "wind ", "0 ", "1 ", "2 ", "9 ", "63 ", "100 ", "x", " ", "fall 3 wide 2;", "hand 1 2 3 4 5;",
        "winged 2 wide 1 clip - 3;"};

    public static void main(String[] args) {
        for (int run = 0; run < 1500; run++) {
            run(run);
        }
        due.end("EveryCallTest");
    }

    /** A call may feed a few times, so 250 of them stay within an object's 512. */
    private static void run(int run) {
        FallCards x = new FallCards();
        FallCards spared = new FallCards();
        Random seeds = new Random(run);
        String refused = "";
        for (int call = 0; call < 250; call++) {
            int which = seeds.nextInt(36);
            long seed = seeds.nextLong();
            random = new Random(seed);
            int got = call(x, which);
            if (isRefused(which, got)) {
                refused = "behind the refused call " + which + ", ";
                due.is("a refusal that is none of the document's: " + which, isNamed(got) ? 1 : 0, 1);
            } else {
                random = new Random(seed);
                due.is("run " + run + ", " + refused + "call " + which, call(spared, which), got);
            }
        }
    }

    private static boolean isNamed(int got) {
        return got >= -4 || got <= -11 && got >= -15 || got == FallCards.NO;
    }

    private static int any(int low, int high) {
        int lot = random.nextInt(8);
        return lot == 0 ? EDGES[random.nextInt(EDGES.length)] : low + random.nextInt(high - low + 1);
    }

    /** Left out: the calls whose answers below 0 are no refusals, and cards(), which uses up the tape. */
    private static boolean isRefused(int which, int got) {
        switch (which) {
            case 1: case 19: case 20: case 27: case 30: return false;
            case 7: return got < 0 && got != -9;
            case 9: case 11: case 22: case 23: return got == FallCards.NO;
            default: return got < 0;
        }
    }

    private static int call(FallCards x, int which) {
        int c = any(0, 5);
        int h = any(1, 700);
        int s = any(0, 35);
        int t = any(-9, 9);
        switch (which) {
            case 0:
                Due.tape(x, WORDS[random.nextInt(WORDS.length)]);
                return 0;
            case 1: return random.nextInt(4) == 0 ? x.cards() : Due.read(x, " ".repeat(random.nextInt(3)) + WORDS[21] + WORDS[23]);
            case 2: return x.card(any(0, 5), any(1, 99), any(1, 9), any(-4, 4));
            case 3: return x.cardOf(c, any(0, 3));
            case 4: return x.set(any(0, 5), any(0, 63));
            case 5: return x.hand(any(0, 4), any(0, 9));
            case 6: return x.sine(s);
            case 7: return x.letGo(c, h, s, t);
            case 8: return x.tick(any(0, 40));
            case 9: return x.air(any(0, 8));
            case 10: return x.gust(any(-999, 999), any(-999, 999));
            case 11: return x.fall(c, h, s, t, any(0, 5));
            case 12: return x.line(c, h, s, t, any(0, 3));
            case 13: return x.parted(c, h, s, t, any(0, 99));
            case 14: return x.odds(c, h, s, t, any(-9, 9), any(0, 1));
            case 15: return x.aim(c, h, t, any(-9, 9));
            case 16: return x.longest(h, s, t);
            case 17: return x.fit(c, h, s, t, any(0, 3), any(0, 5));
            case 18: return x.miss(c, h, s, t, any(0, 3));
            case 19: return x.toss(c, h, s, t);
            case 20: return x.seed(any(-9, 9));
            case 21: return x.prove(any(1, 20));
            case 22: return x.row(any(0, 19), any(0, 2));
            // Halved: a row that became NO would answer like a refusal.
            case 23: return x.alterRow(any(0, 19), any(0, 2), any(0, 9) >> 1);
            case 24: return x.judge();
            case 25: return x.sheet(any(0, 3), any(-1, 3), any(0, 40));
            case 26: return x.put(any(0, 3), any(0, 39), any(-9, 9));
            case 27: return x.item(any(0, 3), any(0, 3), any(0, 39));
            case 28: return x.shelf(any(0, 3), any(0, 2), any(0, 5));
            case 29: return x.taken(any(0, 3), any(0, 13));
            case 30: return x.act(any(0, 3), any(0, 3), any(-99, 99));
            case 31: return x.trace(any(0, 9));
            case 32: return x.many(any(0, 4));
            case 33: return x.keep();
            case 34: return x.again();
            default: return x.feed(random.nextLong(), any(1, 8));
        }
    }
}
