import java.util.ArrayList;
import java.util.List;

/** The document's falls written down a second time, in another way, to hold the class against. */
final class Model {
    long[] laws = {16, 8, 24, 20, 12, 32};
    int[] hand = {0, 0, 1, 0, 0};
    List<int[]> cards = new ArrayList<>();
    int z = 1;

    /** Behind each tick: across, height, slant, turn, side, down. */
    static final class Way {
        List<long[]> ticks = new ArrayList<>();
        boolean landed;
        long firstSlant;

        int swings() {
            int n = 0;
            for (int i = 1; i < ticks.size(); i++) {
                n += Long.signum(ticks.get(i - 1)[3]) * Long.signum(ticks.get(i)[3]) < 0 ? 1 : 0;
            }
            return n;
        }

        int rounds() {
            int n = 0;
            long from = firstSlant;
            for (long[] t : ticks) {
                n += from >= 27 && t[2] <= 8 || from <= 8 && t[2] >= 27 ? 1 : 0;
                from = t[2];
            }
            return n;
        }

        int sort() {
            return swings() == 0 ? rounds() == 0 ? 0 : 2 : rounds() == 0 ? 1 : 3;
        }

        long across() {
            return ticks.get(ticks.size() - 1)[0];
        }

        long square() {
            return (long) Math.floor(across() / 100.0);
        }
    }

    static long sine(long a) {
        long[] t = {0, 174, 342, 500, 643, 766, 866, 940, 985, 1000};
        if (a <= 9) {
            return t[(int) a];
        }
        return a <= 18 ? sine(18 - a) : 0 - sine(a - 18);
    }

    static long held(long v, long most) {
        return v > most ? most : v < -most ? -most : v;
    }

    /** Of a letting go: across, height, slant, turn, side, down. */
    static long[] letGo(int height, int slant, int turn) {
        return new long[] {0, height, slant, turn, 0, 0};
    }

    /** What a tick makes of it. */
    long[] tick(int[] card, int weight, long[] air) {
        long a = air[2];
        long side = air[4];
        long down = air[5];
        long cosine = sine((a + 9) % 36);
        long lifted = down * sine(a) / 1000;
        long newSide = side + lifted * laws[0] / 32 - side * laws[1] / 64 + (laws[5] - 32) / 4;
        long brake = laws[1] + laws[2] * Math.abs(cosine) / 1000;
        long newDown = down + weight - down * brake / 64;
        if (card[0] == 5) {
            newDown = newDown / 2;
        }
        side = held(newSide, 9999);
        down = held(newDown, 9999);
        long t = held(turnOf(card, air[3], a, side * cosine / 1000), 9);
        return new long[] {air[0] + side / 8, air[1] - down / 8, ((a + t) % 36 + 36) % 36, t, side, down};
    }

    Way way(int[] card, int weight, int height, int slant, int turn) {
        Way w = new Way();
        w.firstSlant = slant;
        long[] air = letGo(height, slant, turn);
        for (int i = 0; i < 400 && !w.landed; i++) {
            air = tick(card, weight, air);
            w.landed = air[1] <= 0;
            w.ticks.add(air);
        }
        return w;
    }

    private long turnOf(int[] card, long t, long a, long push) {
        if (card[0] == 1) {
            return 0;
        }
        if (card[0] == 4) {
            return a == 0 ? 0 : a <= 18 ? -1 : 1;
        }
        long as = t + push * laws[3] / 1024 - t * laws[4] / 64 + card[3] / card[2];
        if (card[0] == 2 && a >= 10 && a <= 26) {
            return 0 - as;
        }
        if (card[0] == 3 || card[0] == 5) {
            return t < 0 ? as - 1 : as + 1;
        }
        return as;
    }

    Way way(int card, int height, int slant, int turn) {
        return way(cards.get(card), cards.get(card)[1], height, slant, turn);
    }

    int line(int card, int height, int slant, int turn, int sort) {
        for (int weight = 1; weight <= 99; weight++) {
            Way w = way(cards.get(card), weight, height, slant, turn);
            if (w.landed && w.sort() == sort) {
                return weight;
            }
        }
        return -3;
    }

    int parted(int card, int height, int slant, int turn, int far) {
        List<long[]> one = way(card, height, slant, turn).ticks;
        List<long[]> two = way(card, height, (slant + 1) % 36, turn).ticks;
        for (int i = 0; i < one.size() && i < two.size(); i++) {
            if (Math.abs(one.get(i)[0] - two.get(i)[0]) > far) {
                return i + 1;
            }
        }
        return -3;
    }

    int all() {
        return hand[0] + hand[1] + hand[2] + hand[3] + hand[4];
    }

    int above(int card, int height, int slant, int turn, int square) {
        int sum = 0;
        for (int i = 0; i < 5; i++) {
            Way w = way(card, height, (slant + 34 + i) % 36, turn);
            sum += w.landed && w.square() == square ? hand[i] : 0;
        }
        return sum;
    }

    int odds(int card, int height, int slant, int turn, int square, int part) {
        int above = above(card, height, slant, turn, square);
        int below = all();
        for (int d = below; d > 1; d--) {
            if (above % d == 0 && below % d == 0) {
                above /= d;
                below /= d;
            }
        }
        return part == 0 ? above : below;
    }

    int aim(int card, int height, int turn, int square) {
        int best = -3;
        int most = 0;
        for (int slant = 35; slant >= 0; slant--) {
            int above = above(card, height, slant, turn, square);
            if (above > 0 && above >= most) {
                most = above;
                best = slant;
            }
        }
        return best;
    }

    int longest(int height, int slant, int turn) {
        int best = -3;
        for (int i = cards.size() - 1; i >= 0; i--) {
            if (best < 0 || way(i, height, slant, turn).ticks.size() >= way(best, height, slant, turn).ticks.size()) {
                best = i;
            }
        }
        return best;
    }

    int miss(int card, int height, int slant, int turn, int[] film) {
        List<long[]> ticks = way(card, height, slant, turn).ticks;
        long sum = 0;
        for (int i = 0; i < film.length && i < ticks.size(); i++) {
            sum += Math.abs(film[i] - ticks.get(i)[0]);
        }
        return (int) Math.min(sum, 999999999);
    }

    int fit(int card, int height, int slant, int turn, int[] film, int law) {
        long was = laws[law];
        int best = 63;
        int least = Integer.MAX_VALUE;
        for (int v = 63; v >= 0; v--) {
            laws[law] = v;
            int off = miss(card, height, slant, turn, film);
            if (off <= least) {
                least = off;
                best = v;
            }
        }
        laws[law] = was;
        return best;
    }

    int toss(int card, int height, int slant, int turn) {
        z = z * 1103515245 + 12345;
        int pick = (z >>> 16) % all();
        int i = 0;
        while (pick >= hand[i]) {
            pick -= hand[i];
            i++;
        }
        Way w = way(card, height, (slant + 34 + i) % 36, turn);
        return w.landed ? (int) w.square() : Integer.MIN_VALUE;
    }
}
