import java.util.ArrayList;
import java.util.List;

/**
 * The whole document written down a second time, in another way: the same calls with the same answers. It leaves the
 * falls to Model and the text to TextModel; cards, air and rows are lists, and what a kind does stands in a table.
 */
final class Twin {
    private static final int BAD = -1, FULL = -2, NONE = -3, STATE = -4, NO = Integer.MIN_VALUE;
    private static final int[] ABOVE = {-1, 0, 0, 0, 1, 3};
    /** Of each kind its bodies of falls, turns, shares, tells; 0: that of the kind above. */
    private static final int[][] BODIES = {{10, 11, 12, 13}, {0, 20, 0, 0}, {30, 0, 0, 31}, {0, 40, 0, 0}, {51, 0, 50, 0},
        {0, 0, 61, 60}};

    /** A sheet's row: a new one is another. */
    private record Row(int sort, long[] items) {
    }

    /** What is in the air: way as Model tells it. */
    private record Aloft(int card, int tick, long[] way) {
        boolean landed() {
            return way[1] <= 0;
        }
    }

    private record Kept(List<int[]> cards, long[] laws, int[] hand, Aloft air, int z) {
    }

    private static final class PartedByNothing extends RuntimeException {
        private static final long serialVersionUID = 1;
    }

    private final Model m = new Model();
    private final StringBuilder tape = new StringBuilder();
    private Aloft air;
    private List<int[]> rows = new ArrayList<>();
    private final Row[] sheets = new Row[4];
    private final Object[] shelves = new Object[4];
    private final List<Integer> bodies = new ArrayList<>();
    private Kept kept;

    private static boolean in(int v, int low, int high) {
        return v >= low && v <= high;
    }

    private boolean start(int card, int height, int slant, int turn) {
        return in(card, 0, m.cards.size() - 1) && in(height, 1, 9999) && in(slant, 0, 35) && in(turn, -9, 9);
    }

    public int feed(long eight, int n) {
        if (!in(n, 1, 8)) {
            return BAD;
        }
        if (tape.length() + n > 200) {
            return FULL;
        }
        for (long left = eight, i = 0; i < n; i++, left >>>= 8) {
            tape.append((char) (left % 256 < 0 ? left % 256 + 256 : left % 256));
        }
        return tape.length();
    }

    public int cards() {
        TextModel text = new TextModel();
        for (int i = 0; i < 6; i++) {
            text.laws[i] = (int) m.laws[i];
        }
        System.arraycopy(m.hand, 0, text.hand, 0, 5);
        int fault = text.read(tape.toString());
        tape.setLength(0);
        if (fault >= 0) {
            return -100 - fault;
        }
        m.cards = new ArrayList<>();
        for (int[] c : text.cards) {
            m.cards.add(new int[] {c[0], c[1], c[2], c[3] - 10});
        }
        for (int i = 0; i < 6; i++) {
            m.laws[i] = text.laws[i];
        }
        m.hand = text.hand;
        air = null;
        rows = new ArrayList<>();
        return m.cards.size();
    }

    public int card(int kind, int weight, int wide, int clip) {
        if (!in(kind, 0, 5) || !in(weight, 1, 99) || !in(wide, 1, 9) || !in(clip, -4, 4)) {
            return BAD;
        }
        if (m.cards.size() == 6) {
            return FULL;
        }
        m.cards.add(new int[] {kind, weight, wide, clip});
        return m.cards.size() - 1;
    }

    public int cardOf(int card, int what) {
        if (!in(card, 0, m.cards.size() - 1) || !in(what, 0, 3)) {
            return BAD;
        }
        return m.cards.get(card)[what] + (what == 3 ? 10 : 0);
    }

    public int set(int law, int v) {
        if (!in(law, 0, 5) || !in(v, 0, 63)) {
            return BAD;
        }
        int was = (int) m.laws[law];
        m.laws[law] = v;
        return was;
    }

    public int hand(int i, int v) {
        if (!in(i, 0, 4) || !in(v, 0, 9)) {
            return BAD;
        }
        int was = m.hand[i];
        m.hand[i] = v;
        if (m.all() == 0) {
            m.hand[i] = was;
            return STATE;
        }
        return was;
    }

    public int sine(int a) {
        return in(a, 0, 35) ? (int) Model.sine(a) + 1000 : BAD;
    }

    public int letGo(int card, int height, int slant, int turn) {
        if (!start(card, height, slant, turn)) {
            return BAD;
        }
        int was = air == null ? -9 : air.card;
        air = new Aloft(card, 0, Model.letGo(height, slant, turn));
        return was;
    }

    private Aloft next(Aloft a) {
        int[] card = m.cards.get(a.card);
        return new Aloft(a.card, a.tick + 1, m.tick(card, card[1], a.way));
    }

    public int tick(int n) {
        if (!in(n, 0, 400)) {
            return BAD;
        }
        if (air == null) {
            return STATE;
        }
        int from = air.tick;
        for (int i = 0; i < n && !air.landed(); i++) {
            air = next(air);
        }
        return air.tick - from;
    }

    public int air(int what) {
        if (air == null || !in(what, 0, 8)) {
            return NO;
        }
        return what == 0 ? air.card : what == 1 ? air.tick : what == 8 ? air.landed() ? 1 : 0 : (int) air.way[what - 2];
    }

    public int gust(int side, int down) {
        if (!in(side, -999, 999) || !in(down, -999, 999)) {
            return BAD;
        }
        if (air == null || air.landed()) {
            return STATE;
        }
        long[] way = air.way.clone();
        way[4] = Model.held(way[4] + side, 9999);
        way[5] = Model.held(way[5] + down, 9999);
        air = new Aloft(air.card, air.tick, way);
        return 1;
    }

    public int fall(int card, int height, int slant, int turn, int what) {
        if (!start(card, height, slant, turn) || !in(what, 0, 5)) {
            return NO;
        }
        Model.Way w = m.way(card, height, slant, turn);
        long[] told = {w.ticks.size(), w.across(), w.swings(), w.rounds(), w.sort(), w.square()};
        return w.landed ? (int) told[what] : NO;
    }

    public int line(int card, int height, int slant, int turn, int sort) {
        return start(card, height, slant, turn) && in(sort, 0, 3) ? m.line(card, height, slant, turn, sort) : BAD;
    }

    public int parted(int card, int height, int slant, int turn, int far) {
        return start(card, height, slant, turn) && in(far, 0, 9999) ? m.parted(card, height, slant, turn, far) : BAD;
    }

    public int odds(int card, int height, int slant, int turn, int square, int part) {
        boolean told = start(card, height, slant, turn) && in(square, -999, 999) && in(part, 0, 1);
        return told ? m.odds(card, height, slant, turn, square, part) : BAD;
    }

    public int aim(int card, int height, int turn, int square) {
        return start(card, height, 0, turn) && in(square, -999, 999) ? m.aim(card, height, turn, square) : BAD;
    }

    public int longest(int height, int slant, int turn) {
        return in(height, 1, 9999) && in(slant, 0, 35) && in(turn, -9, 9) ? m.longest(height, slant, turn) : BAD;
    }

    /** A film's numbers; of no film one number, the refusal, and null behind it. */
    private int[][] film(int sheet) {
        if (!in(sheet, 0, 3)) {
            return new int[][] {{BAD}, null};
        }
        Row row = sheets[sheet];
        if (row == null || row.sort != 2) {
            return new int[][] {{row == null ? -11 : -13}, null};
        }
        int[] numbers = new int[row.items.length];
        for (int i = 0; i < numbers.length; i++) {
            numbers[i] = (int) row.items[i];
        }
        return new int[][] {{0}, numbers};
    }

    public int fit(int card, int height, int slant, int turn, int sheet, int law) {
        if (!start(card, height, slant, turn) || !in(law, 0, 5)) {
            return BAD;
        }
        int[][] film = film(sheet);
        return film[1] == null ? film[0][0] : m.fit(card, height, slant, turn, film[1], law);
    }

    public int miss(int card, int height, int slant, int turn, int sheet) {
        if (!start(card, height, slant, turn)) {
            return BAD;
        }
        int[][] film = film(sheet);
        return film[1] == null ? film[0][0] : m.miss(card, height, slant, turn, film[1]);
    }

    public int toss(int card, int height, int slant, int turn) {
        return start(card, height, slant, turn) ? m.toss(card, height, slant, turn) : NO;
    }

    public int seed(int v) {
        int was = m.z;
        m.z = v;
        return was;
    }

    private List<int[]> rowsOf(int n) {
        List<int[]> told = new ArrayList<>();
        Aloft a = air;
        while (told.size() < n && !a.landed()) {
            a = next(a);
            told.add(new int[] {(int) a.way[0], (int) a.way[1], (int) a.way[2]});
        }
        return told;
    }

    public int prove(int n) {
        if (!in(n, 1, 20)) {
            return BAD;
        }
        if (air == null) {
            return STATE;
        }
        rows = rowsOf(n);
        return rows.size();
    }

    public int row(int i, int what) {
        return in(i, 0, rows.size() - 1) && in(what, 0, 2) ? rows.get(i)[what] : NO;
    }

    public int alterRow(int i, int what, int v) {
        int was = row(i, what);
        if (in(i, 0, rows.size() - 1) && in(what, 0, 2)) {
            rows.get(i)[what] = v;
        }
        return was;
    }

    public int judge() {
        if (air == null) {
            return STATE;
        }
        List<int[]> must = rowsOf(rows.size());
        for (int i = 0; i < rows.size(); i++) {
            if (i >= must.size() || !java.util.Arrays.equals(rows.get(i), must.get(i))) {
                return i + 1;
            }
        }
        return 0;
    }

    public int sheet(int sheet, int sort, int n) {
        if (!in(sheet, 0, 3) || !in(sort, -1, 3) || sort >= 0 && n > 40) {
            return BAD;
        }
        if (sort >= 0 && n < 0) {
            return -14;
        }
        sheets[sheet] = sort < 0 ? null : new Row(sort, new long[n]);
        return 1;
    }

    public int put(int sheet, int i, int v) {
        if (!in(sheet, 0, 3)) {
            return BAD;
        }
        Row row = sheets[sheet];
        if (row == null) {
            return -11;
        }
        if (!in(i, 0, row.items.length - 1)) {
            return -12;
        }
        row.items[i] = row.sort == 0 ? (byte) v : row.sort == 1 ? (short) v : v;
        return 1;
    }

    public int item(int sheet, int sort, int i) {
        if (!in(sheet, 0, 3) || !in(sort, 0, 3)) {
            return BAD;
        }
        Row row = sheets[sheet];
        if (row == null) {
            return -11;
        }
        if (row.sort != sort) {
            return -13;
        }
        return in(i, 0, row.items.length - 1) ? (int) row.items[i] : -12;
    }

    public int shelf(int shelf, int what, int n) {
        boolean thing = what == 0 && in(n, 0, m.cards.size() - 1) || what == 1 && in(n, 0, 3) || what == 2;
        if (!in(shelf, 0, 3) || !thing) {
            return BAD;
        }
        shelves[shelf] = what == 0 ? (Object) n : what == 1 ? sheets[n] : null;
        return 1;
    }

    /** The card on a shelf by its number, or -1. */
    private int cardOn(int shelf) {
        return shelves[shelf] instanceof Integer n && n < m.cards.size() ? n : -1;
    }

    public int taken(int shelf, int as) {
        if (!in(shelf, 0, 3) || !in(as, 0, 5) && !in(as, 10, 13)) {
            return BAD;
        }
        if (shelves[shelf] instanceof Row row) {
            return row.sort == as - 10 ? row.items.length : -13;
        }
        int n = cardOn(shelf);
        if (n < 0) {
            return -11;
        }
        for (int kind = m.cards.get(n)[0]; kind >= 0; kind = ABOVE[kind]) {
            if (kind == as) {
                return n;
            }
        }
        return -13;
    }

    public int act(int shelf, int act, int x) {
        bodies.clear();
        int n = in(shelf, 0, 3) && in(act, 0, 3) ? cardOn(shelf) : -1;
        if (n < 0) {
            return 0;
        }
        try {
            return run(n, m.cards.get(n)[0], act, x);
        } catch (PartedByNothing e) {
            return -15;
        }
    }

    /** The body that a thing of this kind has of an act, its own or that of the next kind above. */
    private int run(int n, int kind, int act, int x) {
        int at = kind;
        while (BODIES[at][act] == 0) {
            at = ABOVE[at];
        }
        int body = BODIES[at][act];
        bodies.add(body);
        int own = m.cards.get(n)[0];
        int a = m.cards.get(n)[1];
        int above = ABOVE[at];
        switch (body) {
            case 10: return x + n;
            case 11: return run(n, own, 0, x) * 2;
            case 12:
                if (a == n) {
                    throw new PartedByNothing();
                }
                return x / (a - n);
            case 13: return run(n, own, 1, x) ^ a;
            case 20: return run(n, above, 1, x) - a;
            case 30: return run(n, above, 0, x) * 3;
            case 31: return run(n, above, 3, x) + run(n, own, 2, n);
            case 40: return 0 - run(n, above, 1, x);
            case 50: return run(n, above, 2, x + 2) ^ 1;
            case 51: return run(n, above, 0, x) - n;
            case 60: return run(n, above, 3, x) * 2;
            default: return run(n, above, 2, x) + run(n, own, 0, a);
        }
    }

    public int trace(int i) {
        return in(i, 0, Math.min(30, bodies.size()) - 1) ? bodies.get(i) : NONE;
    }

    public int many(int what) {
        int[] told = {m.cards.size(), rows.size(), tape.length(), Math.min(30, bodies.size()), m.all()};
        return in(what, 0, 4) ? told[what] : BAD;
    }

    public int keep() {
        kept = new Kept(List.copyOf(m.cards), m.laws.clone(), m.hand.clone(), air, m.z);
        return 1;
    }

    public int again() {
        if (kept == null) {
            return NONE;
        }
        m.cards = new ArrayList<>(kept.cards);
        m.laws = kept.laws.clone();
        m.hand = kept.hand.clone();
        air = kept.air;
        m.z = kept.z;
        return m.cards.size();
    }
}
