/** Sheets that fall, tick by tick; ../shared/DOC.md tells what each call answers. */
public final class FallCards {
    public static final int BAD = -1, FULL = -2, NONE = -3, STATE = -4, NO = -2147483648;

    private static final int NOTHING = -11, OUTSIDE = -12, OTHER_SORT = -13, BELOW_SIZE = -14, BY_ZERO = -15;
    private static final int EMPTY_AIR = -9;
    private static final int MOST_CARDS = 6, LAWS = 6, HANDS = 5, SLANTS = 36;
    private static final int LIFT = 0, DRAG = 1, EDGE = 2, SPIN = 3, DAMP = 4, WIND = 5;
    private static final int MOST_LAW = 63, MOST_HAND = 9, MOST_TURN = 9, MOST_PACE = 9999;
    private static final int MOST_HEIGHT = 9999, MOST_TICKS = 400, MOST_SQUARE = 999, MOST_FAR = 9999;
    private static final int MOST_GUST = 999, MOST_MISS = 999999999, MOST_WEIGHT = 99, MOST_WIDE = 9, MOST_CLIP = 4;
    private static final int TAPE_ROOM = 200, NO_FAULT = -1;
    private static final int MOST_ROWS = 20, ROW_PARTS = 3, TRACE_ROOM = 30;
    private static final int SHEETS = 4, SHELVES = 4, SHEET_ROOM = 40, MISSING = -1, INTS = 2, SORTS = 4;
    private static final int HOLDS_NOTHING = 0, HOLDS_CARD = 1, HOLDS_ROW = 2;
    private static final int[] SINES = {0, 174, 342, 500, 643, 766, 866, 940, 985, 1000};

    private final World now = new World();
    private final World kept = new World();
    private boolean hasKept;
    private final World draft = new World();
    private final Tape tape = new Tape();
    private final Trace bodies = new Trace();
    private final Sheet[] sheets = new Sheet[SHEETS];
    // Of a row on a shelf only its sort and length can ever be asked, so these are held instead of it.
    private final int[] holds = new int[SHELVES];
    private final int[] heldNumber = new int[SHELVES];
    private final int[] heldLength = new int[SHELVES];
    private final int[] rows = new int[MOST_ROWS * ROW_PARTS];
    private int rowCount;
    // Made once and used by every call that tries a fall out, so that calls make no objects.
    private final Flight trial = new Flight();
    private final Flight other = new Flight();
    private final int[] trialLaws = new int[LAWS];
    private final int[] squares = new int[SLANTS];

    public FallCards() {
        for (int i = 0; i < sheets.length; i++) {
            sheets[i] = new Sheet();
        }
    }

    // ---- cards

    public int feed(long eight, int n) {
        if (n < 1 || n > 8) {
            return BAD;
        }
        return tape.takeBytes(eight, n) ? tape.length : FULL;
    }

    public int cards() {
        draft.copyFrom(now);
        draft.clearCards();
        int fault = tape.readInto(draft);
        tape.length = 0;
        if (fault != NO_FAULT) {
            return -100 - fault;
        }
        now.copyFrom(draft);
        rowCount = 0;
        return now.count;
    }

    public int card(int kind, int weight, int wide, int clip) {
        if (kind < 0 || kind > 5 || weight < 1 || weight > MOST_WEIGHT) {
            return BAD;
        }
        if (wide < 1 || wide > MOST_WIDE || clip < -MOST_CLIP || clip > MOST_CLIP) {
            return BAD;
        }
        return now.addCard(kind, weight, wide, clip) ? now.count - 1 : FULL;
    }

    public int cardOf(int card, int what) {
        Fall thing = now.cardAt(card);
        if (thing == null) {
            return BAD;
        }
        switch (what) {
            case 0: return thing.kind();
            case 1: return thing.weight;
            case 2: return thing.wide;
            case 3: return thing.clip + 10;
            default: return BAD;
        }
    }

    public int set(int law, int v) {
        if (law < 0 || law >= LAWS || v < 0 || v > MOST_LAW) {
            return BAD;
        }
        int was = now.laws[law];
        now.laws[law] = v;
        return was;
    }

    public int hand(int i, int v) {
        if (i < 0 || i >= HANDS || v < 0 || v > MOST_HAND) {
            return BAD;
        }
        int was = now.hand[i];
        if (now.allWeights() - was + v == 0) {
            return STATE;
        }
        now.hand[i] = v;
        return was;
    }

    public int sine(int a) {
        return a < 0 || a >= SLANTS ? BAD : sineOf(a) + 1000;
    }

    // ---- in the air

    public int letGo(int card, int height, int slant, int turn) {
        int was = now.air.card == null ? EMPTY_AIR : now.air.card.number;
        return begin(now.air, card, height, slant, turn) ? was : BAD;
    }

    public int tick(int n) {
        if (n < 0 || n > MOST_TICKS) {
            return BAD;
        }
        if (now.air.card == null) {
            return STATE;
        }
        int done = 0;
        while (done < n && !now.air.landed()) {
            now.air.step(now.laws);
            done++;
        }
        return done;
    }

    public int air(int what) {
        Flight f = now.air;
        if (f.card == null) {
            return NO;
        }
        switch (what) {
            case 0: return f.card.number;
            case 1: return f.ticks;
            case 2: return f.across;
            case 3: return f.height;
            case 4: return f.slant;
            case 5: return f.turn;
            case 6: return f.side;
            case 7: return f.down;
            case 8: return f.landed() ? 1 : 0;
            default: return NO;
        }
    }

    public int gust(int side, int down) {
        if (side < -MOST_GUST || side > MOST_GUST || down < -MOST_GUST || down > MOST_GUST) {
            return BAD;
        }
        if (now.air.card == null || now.air.landed()) {
            return STATE;
        }
        now.air.side = heldTo(now.air.side + side, MOST_PACE);
        now.air.down = heldTo(now.air.down + down, MOST_PACE);
        return 1;
    }

    // ---- falls

    public int fall(int card, int height, int slant, int turn, int what) {
        if (!begin(trial, card, height, slant, turn) || !trial.runOut(now.laws)) {
            return NO;
        }
        switch (what) {
            case 0: return trial.ticks;
            case 1: return trial.across;
            case 2: return trial.swings;
            case 3: return trial.rounds;
            case 4: return trial.sort();
            case 5: return trial.square();
            default: return NO;
        }
    }

    public int line(int card, int height, int slant, int turn, int sort) {
        if (sort < 0 || sort > 3 || !begin(trial, card, height, slant, turn)) {
            return BAD;
        }
        for (int weight = 1; weight <= MOST_WEIGHT; weight++) {
            begin(trial, card, height, slant, turn);
            trial.weight = weight;
            if (trial.runOut(now.laws) && trial.sort() == sort) {
                return weight;
            }
        }
        return NONE;
    }

    public int parted(int card, int height, int slant, int turn, int far) {
        if (far < 0 || far > MOST_FAR || !begin(trial, card, height, slant, turn)) {
            return BAD;
        }
        begin(other, card, height, (slant + 1) % SLANTS, turn);
        for (int i = 0; i < MOST_TICKS && !trial.landed() && !other.landed(); i++) {
            trial.step(now.laws);
            other.step(now.laws);
            if (Math.abs(trial.across - other.across) > far) {
                return trial.ticks;
            }
        }
        return NONE;
    }

    public int odds(int card, int height, int slant, int turn, int square, int part) {
        if (!isSquare(square) || part < 0 || part > 1 || !begin(trial, card, height, slant, turn)) {
            return BAD;
        }
        int above = 0;
        for (int i = 0; i < HANDS; i++) {
            if (now.hand[i] > 0 && landsOn(card, height, byHand(slant, i), turn) == square) {
                above += now.hand[i];
            }
        }
        int below = now.allWeights();
        int common = commonDivisor(above, below);
        if (common < 1) {
            return BAD;
        }
        return part == 0 ? above / common : below / common;
    }

    public int aim(int card, int height, int turn, int square) {
        if (!isSquare(square) || !begin(trial, card, height, 0, turn)) {
            return BAD;
        }
        for (int slant = 0; slant < SLANTS; slant++) {
            squares[slant] = landsOn(card, height, slant, turn);
        }
        int best = NONE;
        int most = 0;
        for (int slant = 0; slant < SLANTS; slant++) {
            int weights = weightsToward(slant, square);
            if (weights > most) {
                most = weights;
                best = slant;
            }
        }
        return best;
    }

    public int longest(int height, int slant, int turn) {
        if (!isLettingGo(height, slant, turn)) {
            return BAD;
        }
        int best = NONE;
        int most = 0;
        for (int i = 0; i < now.count; i++) {
            begin(trial, i, height, slant, turn);
            trial.runOut(now.laws);
            if (trial.ticks > most) {
                most = trial.ticks;
                best = i;
            }
        }
        return best;
    }

    public int fit(int card, int height, int slant, int turn, int sheet, int law) {
        if (law < 0 || law >= LAWS || !begin(trial, card, height, slant, turn)) {
            return BAD;
        }
        Sheet film = sheetAt(sheet);
        int refusal = filmRefusal(film);
        if (film == null || refusal < 0) {
            return refusal;
        }
        System.arraycopy(now.laws, 0, trialLaws, 0, LAWS);
        int best = 0;
        int least = MOST_MISS;
        for (int v = 0; v <= MOST_LAW; v++) {
            trialLaws[law] = v;
            begin(trial, card, height, slant, turn);
            int off = missOf(trial, film, trialLaws);
            if (off < least) {
                least = off;
                best = v;
            }
        }
        return best;
    }

    public int miss(int card, int height, int slant, int turn, int sheet) {
        if (!begin(trial, card, height, slant, turn)) {
            return BAD;
        }
        Sheet film = sheetAt(sheet);
        int refusal = filmRefusal(film);
        return film == null || refusal < 0 ? refusal : missOf(trial, film, now.laws);
    }

    public int toss(int card, int height, int slant, int turn) {
        int all = now.allWeights();
        if (all < 1 || !begin(trial, card, height, slant, turn)) {
            return NO;
        }
        now.z = now.z * 1103515245 + 12345;
        return landsOn(card, height, byHand(slant, handAt((now.z >>> 16) % all)), turn);
    }

    public int seed(int v) {
        int was = now.z;
        now.z = v;
        return was;
    }

    // ---- rows

    public int prove(int n) {
        if (n < 1 || n > MOST_ROWS) {
            return BAD;
        }
        if (now.air.card == null) {
            return STATE;
        }
        trial.copyFrom(now.air);
        rowCount = 0;
        while (rowCount < n && !trial.landed()) {
            trial.step(now.laws);
            int at = rowCount * ROW_PARTS;
            rows[at] = trial.across;
            rows[at + 1] = trial.height;
            rows[at + 2] = trial.slant;
            rowCount++;
        }
        return rowCount;
    }

    public int row(int i, int what) {
        return isRowPart(i, what) ? rows[i * ROW_PARTS + what] : NO;
    }

    public int alterRow(int i, int what, int v) {
        if (!isRowPart(i, what)) {
            return NO;
        }
        int was = rows[i * ROW_PARTS + what];
        rows[i * ROW_PARTS + what] = v;
        return was;
    }

    public int judge() {
        if (now.air.card == null) {
            return STATE;
        }
        trial.copyFrom(now.air);
        for (int i = 0; i < rowCount; i++) {
            // Behind its landing there is no tick more that a row could tell of.
            if (trial.landed()) {
                return i + 1;
            }
            trial.step(now.laws);
            int at = i * ROW_PARTS;
            if (rows[at] != trial.across || rows[at + 1] != trial.height || rows[at + 2] != trial.slant) {
                return i + 1;
            }
        }
        return 0;
    }

    // ---- the host

    public int sheet(int sheet, int sort, int n) {
        Sheet s = sheetAt(sheet);
        if (s == null || sort < MISSING || sort >= SORTS) {
            return BAD;
        }
        if (sort == MISSING) {
            s.become(MISSING, 0);
            return 1;
        }
        if (n > SHEET_ROOM) {
            return BAD;
        }
        if (n < 0) {
            return BELOW_SIZE;
        }
        s.become(sort, n);
        return 1;
    }

    public int put(int sheet, int i, int v) {
        Sheet s = sheetAt(sheet);
        if (s == null) {
            return BAD;
        }
        if (s.sort == MISSING) {
            return NOTHING;
        }
        if (i < 0 || i >= s.length) {
            return OUTSIDE;
        }
        s.items[i] = s.narrowed(v);
        return 1;
    }

    public int item(int sheet, int sort, int i) {
        Sheet s = sheetAt(sheet);
        if (s == null || sort < 0 || sort >= SORTS) {
            return BAD;
        }
        if (s.sort == MISSING) {
            return NOTHING;
        }
        if (s.sort != sort) {
            return OTHER_SORT;
        }
        return i < 0 || i >= s.length ? OUTSIDE : (int) s.items[i];
    }

    public int shelf(int shelf, int what, int n) {
        if (!isShelf(shelf)) {
            return BAD;
        }
        switch (what) {
            case 0: return now.cardAt(n) == null ? BAD : lay(shelf, HOLDS_CARD, n, 0);
            case 1: return layRow(shelf, sheetAt(n));
            case 2: return lay(shelf, HOLDS_NOTHING, 0, 0);
            default: return BAD;
        }
    }

    public int taken(int shelf, int as) {
        boolean asKind = as >= 0 && as <= 5;
        boolean asRow = as >= 10 && as <= 13;
        if (!isShelf(shelf) || !asKind && !asRow) {
            return BAD;
        }
        if (holds[shelf] == HOLDS_ROW) {
            return heldNumber[shelf] == as - 10 ? heldLength[shelf] : OTHER_SORT;
        }
        Fall thing = thingOn(shelf);
        if (thing == null) {
            return NOTHING;
        }
        return asKind && isOfKind(thing, as) ? thing.number : OTHER_SORT;
    }

    public int act(int shelf, int act, int x) {
        bodies.clear();
        Fall thing = thingOn(shelf);
        if (thing == null || act < 0 || act > 3) {
            return 0;
        }
        int answer;
        switch (act) {
            case 0: answer = thing.falls(x, bodies); break;
            case 1: answer = thing.turns(x, bodies); break;
            case 2: answer = thing.shares(x, bodies); break;
            default: answer = thing.tells(x, bodies); break;
        }
        return bodies.broken ? BY_ZERO : answer;
    }

    public int trace(int i) {
        return i < 0 || i >= bodies.length ? NONE : bodies.numbers[i];
    }

    public int many(int what) {
        switch (what) {
            case 0: return now.count;
            case 1: return rowCount;
            case 2: return tape.length;
            case 3: return bodies.length;
            case 4: return now.allWeights();
            default: return BAD;
        }
    }

    // ---- kept

    public int keep() {
        kept.copyFrom(now);
        hasKept = true;
        return 1;
    }

    public int again() {
        if (!hasKept) {
            return NONE;
        }
        now.copyFrom(kept);
        return now.count;
    }

    // ---- what the calls share

    private static int sineOf(int a) {
        if (a < 0 || a >= SLANTS) {
            return 0;
        }
        int half = a < 18 ? a : a - 18;
        int size = SINES[half < 10 ? half : 18 - half];
        return a < 18 ? size : -size;
    }

    private static int heldTo(int v, int most) {
        return Math.max(-most, Math.min(most, v));
    }

    private static int commonDivisor(int a, int b) {
        int left = a;
        int right = b;
        for (int i = 0; i < 64 && right != 0; i++) {
            int rest = left % right;
            left = right;
            right = rest;
        }
        return left;
    }

    private static boolean isLettingGo(int height, int slant, int turn) {
        return height >= 1 && height <= MOST_HEIGHT && slant >= 0 && slant < SLANTS
            && turn >= -MOST_TURN && turn <= MOST_TURN;
    }

    private static boolean isSquare(int square) {
        return square >= -MOST_SQUARE && square <= MOST_SQUARE;
    }

    private Sheet sheetAt(int n) {
        return n >= 0 && n < SHEETS ? sheets[n] : null;
    }

    private static boolean isShelf(int n) {
        return n >= 0 && n < SHELVES;
    }

    private boolean isRowPart(int i, int what) {
        return i >= 0 && i < rowCount && what >= 0 && what < ROW_PARTS;
    }

    private static boolean isOfKind(Fall thing, int kind) {
        switch (kind) {
            case 0: return true;
            case 1: return thing instanceof Steady;
            case 2: return thing instanceof Swinging;
            case 3: return thing instanceof Turning;
            case 4: return thing instanceof Righted;
            default: return thing instanceof Winged;
        }
    }

    /** Whether the letting go is as told; only then f is changed. */
    private boolean begin(Flight f, int card, int height, int slant, int turn) {
        Fall thing = now.cardAt(card);
        if (thing == null || !isLettingGo(height, slant, turn)) {
            return false;
        }
        f.start(thing, height, slant, turn);
        return true;
    }

    /** The square on which a fall lands; NO, which no square is, if it doesn't. */
    private int landsOn(int card, int height, int slant, int turn) {
        if (!begin(trial, card, height, slant, turn) || !trial.runOut(now.laws)) {
            return NO;
        }
        return trial.square();
    }

    private static int byHand(int slant, int i) {
        return Math.floorMod(slant + i - 2, SLANTS);
    }

    /** The first i whose weights 0 to i together are above pick. */
    private int handAt(int pick) {
        int together = 0;
        for (int i = 0; i < HANDS; i++) {
            together += now.hand[i];
            if (pick < together) {
                return i;
            }
        }
        return HANDS - 1;
    }

    private int weightsToward(int slant, int square) {
        int together = 0;
        for (int i = 0; i < HANDS; i++) {
            if (squares[byHand(slant, i)] == square) {
                together += now.hand[i];
            }
        }
        return together;
    }

    /** Why a sheet can't be a film, or 0. */
    private static int filmRefusal(Sheet film) {
        if (film == null) {
            return BAD;
        }
        if (film.sort == MISSING) {
            return NOTHING;
        }
        return film.sort == INTS ? 0 : OTHER_SORT;
    }

    private static int missOf(Flight f, Sheet film, int[] laws) {
        long sum = 0;
        for (int i = 0; i < film.length && !f.landed(); i++) {
            f.step(laws);
            sum += Math.abs(film.items[i] - f.across);
        }
        return (int) Math.min(sum, MOST_MISS);
    }

    private int lay(int shelf, int what, int number, int length) {
        holds[shelf] = what;
        heldNumber[shelf] = number;
        heldLength[shelf] = length;
        return 1;
    }

    private int layRow(int shelf, Sheet s) {
        if (s == null) {
            return BAD;
        }
        if (s.sort == MISSING) {
            return lay(shelf, HOLDS_NOTHING, 0, 0);
        }
        return lay(shelf, HOLDS_ROW, s.sort, s.length);
    }

    /** The card on a shelf, or null: also if its number has gone since. */
    private Fall thingOn(int shelf) {
        if (!isShelf(shelf) || holds[shelf] != HOLDS_CARD) {
            return null;
        }
        return now.cardAt(heldNumber[shelf]);
    }

    /** All that keep() keeps. */
    static final class World {
        final Fall[] things = new Fall[MOST_CARDS];
        int count;
        final int[] laws = {16, 8, 24, 20, 12, 32};
        final int[] hand = {0, 0, 1, 0, 0};
        final Flight air = new Flight();
        int z = 1;

        void copyFrom(World w) {
            System.arraycopy(w.things, 0, things, 0, MOST_CARDS);
            count = w.count;
            System.arraycopy(w.laws, 0, laws, 0, LAWS);
            System.arraycopy(w.hand, 0, hand, 0, HANDS);
            air.copyFrom(w.air);
            z = w.z;
        }

        void clearCards() {
            count = 0;
            air.card = null;
        }

        Fall cardAt(int n) {
            return n >= 0 && n < count && n < MOST_CARDS ? things[n] : null;
        }

        boolean addCard(int kind, int weight, int wide, int clip) {
            if (count < 0 || count >= MOST_CARDS) {
                return false;
            }
            things[count] = thingOf(kind, count, weight, wide, clip);
            count++;
            return true;
        }

        int allWeights() {
            int together = 0;
            for (int i = 0; i < HANDS; i++) {
                together += hand[i];
            }
            return together;
        }

        static Fall thingOf(int kind, int number, int weight, int wide, int clip) {
            switch (kind) {
                case 1: return new Steady(number, weight, wide, clip);
                case 2: return new Swinging(number, weight, wide, clip);
                case 3: return new Turning(number, weight, wide, clip);
                case 4: return new Righted(number, weight, wide, clip);
                case 5: return new Winged(number, weight, wide, clip);
                default: return new Fall(number, weight, wide, clip);
            }
        }
    }

    /** A card let go, and how far it has come; no card: nothing is let go. */
    static final class Flight {
        Fall card;
        // The card's own, but where a line tries out others.
        int weight;
        int ticks;
        int across;
        int height;
        int slant;
        int turn;
        int side;
        int down;
        int swings;
        int rounds;

        void start(Fall thing, int fromHeight, int atSlant, int withTurn) {
            card = thing;
            weight = thing == null ? 0 : thing.weight;
            ticks = 0;
            across = 0;
            height = fromHeight;
            slant = atSlant;
            turn = withTurn;
            side = 0;
            down = 0;
            swings = 0;
            rounds = 0;
        }

        void copyFrom(Flight f) {
            card = f.card;
            weight = f.weight;
            ticks = f.ticks;
            across = f.across;
            height = f.height;
            slant = f.slant;
            turn = f.turn;
            side = f.side;
            down = f.down;
            swings = f.swings;
            rounds = f.rounds;
        }

        boolean landed() {
            return height <= 0;
        }

        void step(int[] laws) {
            if (card == null) {
                return;
            }
            int sine = sineOf(slant);
            int cosine = sineOf((slant + 9) % SLANTS);
            int blown = side + down * sine / 1000 * laws[LIFT] / 32 - side * laws[DRAG] / 64 + (laws[WIND] - 32) / 4;
            int braked = down + weight - down * (laws[DRAG] + laws[EDGE] * Math.abs(cosine) / 1000) / 64;
            side = heldTo(blown, MOST_PACE);
            down = heldTo(card.downTold(braked), MOST_PACE);
            int turnAhead = turn;
            turn = heldTo(card.turnTold(this, cosine, laws), MOST_TURN);
            int slantAhead = slant;
            slant = Math.floorMod(slant + turn, SLANTS);
            across += side / 8;
            height -= down / 8;
            countSwing(turnAhead);
            countRound(slantAhead);
            ticks++;
        }

        private void countSwing(int turnAhead) {
            // The turn it was let go with stands behind no tick.
            if (ticks > 0 && (turnAhead > 0 && turn < 0 || turnAhead < 0 && turn > 0)) {
                swings++;
            }
        }

        private void countRound(int slantAhead) {
            if (slantAhead >= 27 && slant <= 8 || slantAhead <= 8 && slant >= 27) {
                rounds++;
            }
        }

        /** Goes on till it has landed, 400 ticks at most: whether it has. */
        boolean runOut(int[] laws) {
            for (int i = 0; i < MOST_TICKS && !landed(); i++) {
                step(laws);
            }
            return landed();
        }

        int sort() {
            return (swings > 0 ? 1 : 0) + (rounds > 0 ? 2 : 0);
        }

        int square() {
            return Math.floorDiv(across, 100);
        }
    }

    /** A card of the kind fall, under which all other kinds are. */
    static class Fall {
        final int number;
        final int weight;
        final int wide;
        final int clip;

        Fall(int number, int weight, int wide, int clip) {
            this.number = number;
            this.weight = weight;
            this.wide = wide;
            this.clip = clip;
        }

        int kind() {
            return 0;
        }

        int downTold(int down) {
            return down;
        }

        int turnTold(Flight f, int cosine, int[] laws) {
            int clipped = wide > 0 ? clip / wide : 0;
            return f.turn + f.side * cosine / 1000 * laws[SPIN] / 1024 - f.turn * laws[DAMP] / 64 + clipped;
        }

        int falls(int x, Trace t) {
            t.began(10);
            return x + number;
        }

        int turns(int x, Trace t) {
            t.began(11);
            return falls(x, t) * 2;
        }

        int shares(int x, Trace t) {
            t.began(12);
            int by = weight - number;
            if (by == 0) {
                t.broken = true;
                return 0;
            }
            return x / by;
        }

        int tells(int x, Trace t) {
            t.began(13);
            return turns(x, t) ^ weight;
        }
    }

    static class Steady extends Fall {
        Steady(int number, int weight, int wide, int clip) {
            super(number, weight, wide, clip);
        }

        int kind() {
            return 1;
        }

        int turnTold(Flight f, int cosine, int[] laws) {
            return 0;
        }

        int turns(int x, Trace t) {
            t.began(20);
            return super.turns(x, t) - weight;
        }
    }

    static final class Swinging extends Fall {
        Swinging(int number, int weight, int wide, int clip) {
            super(number, weight, wide, clip);
        }

        int kind() {
            return 2;
        }

        int turnTold(Flight f, int cosine, int[] laws) {
            int told = super.turnTold(f, cosine, laws);
            return f.slant >= 10 && f.slant <= 26 ? -told : told;
        }

        int falls(int x, Trace t) {
            t.began(30);
            return super.falls(x, t) * 3;
        }

        int tells(int x, Trace t) {
            t.began(31);
            return super.tells(x, t) + shares(number, t);
        }
    }

    static class Turning extends Fall {
        Turning(int number, int weight, int wide, int clip) {
            super(number, weight, wide, clip);
        }

        int kind() {
            return 3;
        }

        int turnTold(Flight f, int cosine, int[] laws) {
            return super.turnTold(f, cosine, laws) + (f.turn >= 0 ? 1 : -1);
        }

        int turns(int x, Trace t) {
            t.began(40);
            return 0 - super.turns(x, t);
        }
    }

    static final class Righted extends Steady {
        Righted(int number, int weight, int wide, int clip) {
            super(number, weight, wide, clip);
        }

        int kind() {
            return 4;
        }

        int turnTold(Flight f, int cosine, int[] laws) {
            if (f.slant == 0) {
                return 0;
            }
            return f.slant <= 18 ? -1 : 1;
        }

        int shares(int x, Trace t) {
            t.began(50);
            return super.shares(x + 2, t) ^ 1;
        }

        int falls(int x, Trace t) {
            t.began(51);
            return super.falls(x, t) - number;
        }
    }

    static final class Winged extends Turning {
        Winged(int number, int weight, int wide, int clip) {
            super(number, weight, wide, clip);
        }

        int kind() {
            return 5;
        }

        int downTold(int down) {
            return down / 2;
        }

        int tells(int x, Trace t) {
            t.began(60);
            return super.tells(x, t) * 2;
        }

        int shares(int x, Trace t) {
            t.began(61);
            return super.shares(x, t) + falls(weight, t);
        }
    }

    /** The bodies that ran in the latest act. */
    static final class Trace {
        final int[] numbers = new int[TRACE_ROOM];
        int length;
        // Something was parted by 0: what stands behind it in the act no longer runs.
        boolean broken;

        void clear() {
            length = 0;
            broken = false;
        }

        void began(int body) {
            if (!broken && length < TRACE_ROOM) {
                numbers[length] = body;
                length++;
            }
        }
    }

    /** A row of numbers of one sort, or missing. */
    static final class Sheet {
        int sort = MISSING;
        int length;
        final long[] items = new long[SHEET_ROOM];

        void become(int newSort, int newLength) {
            sort = newSort;
            length = newLength;
            for (int i = 0; i < SHEET_ROOM; i++) {
                items[i] = 0;
            }
        }

        long narrowed(int v) {
            switch (sort) {
                case 0: return (byte) v;
                case 1: return (short) v;
                default: return v;
            }
        }
    }

    /** The tape, and the reading of its text; behind a fault nothing more is read. */
    static final class Tape {
        final byte[] bytes = new byte[TAPE_ROOM];
        int length;
        private int place;
        private int fault;

        boolean takeBytes(long eight, int n) {
            if (n < 0 || n > TAPE_ROOM - length) {
                return false;
            }
            for (int i = 0; i < n; i++) {
                bytes[length] = (byte) (eight >> 8 * i);
                length++;
            }
            return true;
        }

        /** Reads all of it into w: the place of the fault, or NO_FAULT. */
        int readInto(World w) {
            place = 0;
            fault = NO_FAULT;
            skipBlanks();
            for (int i = 0; i < TAPE_ROOM && isGood() && place < length; i++) {
                readPart(w);
                skipBlanks();
            }
            return fault;
        }

        private void readPart(World w) {
            for (int law = 0; law < LAWS; law++) {
                if (passName(lawName(law))) {
                    w.laws[law] = readNumber(0, MOST_LAW);
                    passEnd();
                    return;
                }
            }
            if (passName("hand")) {
                readHand(w);
            } else {
                readCard(w);
            }
        }

        private void readHand(World w) {
            int together = 0;
            for (int i = 0; i < HANDS; i++) {
                // Not all five may be 0, and the last of them is the one to blame.
                int least = i == HANDS - 1 && together == 0 ? 1 : 0;
                w.hand[i] = readNumber(least, MOST_HAND);
                together += w.hand[i];
            }
            passEnd();
        }

        private void readCard(World w) {
            int kind = w.count < MOST_CARDS ? passKind() : -1;
            if (kind < 0) {
                blameHere();
                return;
            }
            int weight = readNumber(1, MOST_WEIGHT);
            if (!passName("wide")) {
                blameHere();
            }
            int wide = readNumber(1, MOST_WIDE);
            int clip = passName("clip") ? readClip() : 0;
            passEnd();
            if (isGood()) {
                w.addCard(kind, weight, wide, clip);
            }
        }

        private int readClip() {
            boolean below = passSign('-');
            int size = readNumber(0, MOST_CLIP);
            return below ? -size : size;
        }

        private int passKind() {
            for (int kind = 0; kind <= 5; kind++) {
                if (passName(kindName(kind))) {
                    return kind;
                }
            }
            return -1;
        }

        private void passEnd() {
            if (!passSign(';')) {
                blameHere();
            }
        }

        private boolean passSign(char sign) {
            skipBlanks();
            if (!isGood() || place >= length || bytes[place] != sign) {
                return false;
            }
            place++;
            return true;
        }

        /** Passes a name, if it is this one, whole. */
        private boolean passName(String name) {
            skipBlanks();
            int end = place + name.length();
            if (!isGood() || end > length || isBetween(end, 'a', 'z')) {
                return false;
            }
            for (int i = 0; i < name.length(); i++) {
                if (bytes[place + i] != name.charAt(i)) {
                    return false;
                }
            }
            place = end;
            return true;
        }

        private int readNumber(int least, int most) {
            skipBlanks();
            int end = place;
            int value = 0;
            while (end < length && isBetween(end, '0', '9')) {
                // More than two digits are a fault, whatever they tell.
                value = Math.min(value * 10 + bytes[end] - '0', 100);
                end++;
            }
            int digits = end - place;
            if (!isGood() || digits < 1 || digits > 2 || value < least || value > most) {
                blameHere();
                return 0;
            }
            place = end;
            return value;
        }

        private boolean isBetween(int at, char low, char high) {
            return at >= 0 && at < length && bytes[at] >= low && bytes[at] <= high;
        }

        private void skipBlanks() {
            while (place < length && bytes[place] == ' ') {
                place++;
            }
        }

        private boolean isGood() {
            return fault == NO_FAULT;
        }

        private void blameHere() {
            if (isGood()) {
                fault = place;
            }
        }

        private static String lawName(int law) {
            switch (law) {
                case LIFT: return "lift";
                case DRAG: return "drag";
                case EDGE: return "edge";
                case SPIN: return "spin";
                case DAMP: return "damp";
                default: return "wind";
            }
        }

        private static String kindName(int kind) {
            switch (kind) {
                case 0: return "fall";
                case 1: return "steady";
                case 2: return "swinging";
                case 3: return "turning";
                case 4: return "righted";
                default: return "winged";
            }
        }
    }
}
