import java.util.Random;

/** Promises 9 to 23 against the model, by throws that are the same each time. */
public final class ModelTest {
    private static final Due due = new Due();
    private static final Random random = new Random(20261118);

    public static void main(String[] args) {
        for (int run = 0; run < 400; run++) {
            run(run);
        }
        due.end("ModelTest");
    }

    private static int between(int low, int high) {
        return low + random.nextInt(high - low + 1);
    }

    private static void run(int run) {
        FallCards x = new FallCards();
        Model m = new Model();
        int cards = between(1, 6);
        for (int i = 0; i < cards; i++) {
            int[] c = {between(0, 5), between(1, run % 2 == 0 ? 99 : 20), between(1, run % 3 == 0 ? 9 : 2), between(-4, 4)};
            m.cards.add(c);
            x.card(c[0], c[1], c[2], c[3]);
        }
        for (int law = 0; law < 6 && run % 4 > 0; law++) {
            m.laws[law] = between(0, 63);
            x.set(law, (int) m.laws[law]);
        }
        for (int i = 0; i < 5; i++) {
            m.hand[i] = between(i == 2 ? 1 : 0, 9);
            x.hand(i, m.hand[i]);
        }
        m.z = random.nextInt();
        x.seed(m.z);
        // Some 130 calls each: an object is good for 512.
        for (int i = 0; i < 3; i++) {
            falls(x, m, run);
        }
    }

    private static void falls(FallCards x, Model m, int run) {
        int card = between(0, m.cards.size() - 1);
        int height = between(1, random.nextBoolean() ? 9999 : 600);
        int slant = between(0, 35);
        int turn = between(-9, 9);
        String start = "run " + run + " (" + card + ", " + height + ", " + slant + ", " + turn + ") ";
        Model.Way w = m.way(card, height, slant, turn);
        long[] told = {w.ticks.size(), w.across(), w.swings(), w.rounds(), w.sort(), w.square()};
        for (int what = 0; what < 6; what++) {
            due.is(start + "fall " + what, x.fall(card, height, slant, turn, what), w.landed ? told[what] : FallCards.NO);
        }
        air(x, w, start, card, height, slant, turn);
        int sort = between(0, 3);
        due.is(start + "line " + sort, x.line(card, height, slant, turn, sort), m.line(card, height, slant, turn, sort));
        int far = between(0, random.nextBoolean() ? 9999 : 100);
        due.is(start + "parted " + far, x.parted(card, height, slant, turn, far), m.parted(card, height, slant, turn, far));
        int square = (int) Math.max(-999, Math.min(999, w.square()));
        for (int part = 0; part < 2; part++) {
            due.is(start + "odds", x.odds(card, height, slant, turn, square, part),
                m.odds(card, height, slant, turn, square, part));
        }
        due.is(start + "aim", x.aim(card, height, turn, square), m.aim(card, height, turn, square));
        due.is(start + "longest", x.longest(height, slant, turn), m.longest(height, slant, turn));
        due.is(start + "toss", x.toss(card, height, slant, turn), m.toss(card, height, slant, turn));
        film(x, m, start, card, height, slant, turn);
    }

    private static void air(FallCards x, Model.Way w, String start, int card, int height, int slant, int turn) {
        x.letGo(card, height, slant, turn);
        int n = Math.min(20, w.ticks.size());
        due.is(start + "prove", x.prove(20), n);
        for (int i = 0; i < n; i++) {
            for (int what = 0; what < 3; what++) {
                due.is(start + "row", x.row(i, what), w.ticks.get(i)[what]);
            }
        }
        due.is(start + "judge", x.judge(), 0);
        due.is(start + "tick", x.tick(400), w.ticks.size());
        long[] last = w.ticks.get(w.ticks.size() - 1);
        for (int what = 0; what < 4; what++) {
            due.is(start + "air", x.air(2 + what), last[what]);
        }
        due.is(start + "landed", x.air(8), w.landed ? 1 : 0);
    }

    private static void film(FallCards x, Model m, String start, int card, int height, int slant, int turn) {
        int law = between(0, 5);
        int[] film = new int[between(0, 40)];
        long was = m.laws[law];
        m.laws[law] = between(0, 63);
        Model.Way w = m.way(card, height, slant, turn);
        m.laws[law] = was;
        x.sheet(0, 2, film.length);
        for (int i = 0; i < film.length; i++) {
            film[i] = i < w.ticks.size() ? (int) w.ticks.get(i)[0] + between(-1, 1) : between(-99, 99);
            x.put(0, i, film[i]);
        }
        due.is(start + "miss", x.miss(card, height, slant, turn, 0), m.miss(card, height, slant, turn, film));
        due.is(start + "fit " + law, x.fit(card, height, slant, turn, 0, law), m.fit(card, height, slant, turn, film, law));
    }
}
