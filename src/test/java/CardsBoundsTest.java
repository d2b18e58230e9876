/** The bounds that 'Terms' 1 and promises 1 to 8 name, sentence by sentence; the text itself is in TextBoundsTest. */
public final class CardsBoundsTest {
    private static final Due due = new Due();
    private static final Bounds bounds = new Bounds(due);
    private static final int BAD = -1, FULL = -2, STATE = -4, NO = Integer.MIN_VALUE;

    public static void main(String[] args) {
        newObject();
        feedNumbers();
        feedBytes();
        tapeRoom();
        cardNumbers();
        cardRoom();
        cardOf();
        laws();
        lawsReach();
        hand();
        handOfNothing();
        sine();
        due.end("CardsBoundsTest");
    }

    private static void newObject() {
        due.says("No CARDS, nothing in THE AIR; nothing is kept");
        due.same("a new object", Look.world(new FallCards()), "cards 0 laws 16 8 24 20 12 32 hand 0 0 1 0 0"
            + " air" + (" " + NO).repeat(9) + " z 1");
        due.same("its rows", Look.rows(new FallCards()), " rows 0");
        due.same("its host", Look.host(new FallCards()), " sheet -11 -11 -11 -11".repeat(4)
            + " shelf -11 -11 -11 -11 -11 -11 -11 -11 -11 -11".repeat(4) + " trace 0");
        due.is("its tape", new FallCards().many(2), 0);
        bounds.refused("again", Stage::fresh, -3, x -> x.again());
        FallCards used = Stage.rich();
        due.is("another object's cards are its own", used.many(0), 3);
        due.is("no cards of another object", new FallCards().many(0), 0);
        due.is("nothing kept by another object", new FallCards().again(), -3);
    }

    private static void feedNumbers() {
        due.says("n bytes (1 to 8) come to THE TAPE: how many it has. BAD");
        bounds.ends("feed", Stage::rich, 1, 8, BAD, (x, v) -> x.feed(0x2020202020202020L, v));
        for (int n = 1; n <= 8; n++) {
            FallCards x = new FallCards();
            due.is("feed " + n, x.feed(-1L, n), n);
            due.is("many bytes", x.many(2), n);
            due.is("once more", x.feed(0L, n), 2 * n);
            due.is("many bytes then", x.many(2), 2 * n);
        }
    }

    private static void feedBytes() {
        due.says("the lowest of eight first");
        // Each byte in its turn is the one that can't stand there.
        for (int at = 0; at < 8; at++) {
            long eight = 0x2020202020202020L;
            FallCards x = new FallCards();
            x.feed(eight ^ 1L << 8 * at, 8);
            due.is("a byte that is no blank at " + at, x.cards(), -100 - at);
            FallCards y = new FallCards();
            y.feed(eight ^ 0xFFL << 8 * at, 8);
            due.is("a byte with all other bits at " + at, y.cards(), -100 - at);
            FallCards z = new FallCards();
            z.feed(eight ^ 1L << 8 * at, at + 1);
            due.is("the last of n at " + at, z.cards(), -100 - at);
            FallCards w = new FallCards();
            due.is("n alone come", at == 0 ? 0 : w.feed(eight ^ 1L << 8 * at, at), at);
            due.is("blanks alone", w.cards(), 0);
        }
        FallCards x = new FallCards();
        x.feed(0x3120746669L << 8 | 'l', 6);
        due.is("lift 1", x.cards(), -106);
        x.feed(0x3320746669L << 8 | 'l', 6);
        x.feed(';', 1);
        due.is("what comes later stands behind it", x.cards(), 0);
        due.is("lift 3 was read", x.set(0, 0), 3);
    }

    private static FallCards holding(int bytes) {
        FallCards x = new FallCards();
        for (int i = 0; i < bytes / 8; i++) {
            x.feed(0x2020202020202020L, 8);
        }
        if (bytes % 8 != 0) {
            x.feed(0x2020202020202020L, bytes % 8);
        }
        return x;
    }

    private static void tapeRoom() {
        due.says("THE TAPE takes bytes, 200 at most. FULL: more than 200");
        for (int n = 1; n <= 8; n++) {
            int bytes = n;
            due.is("just 200 by " + n, holding(200 - n).feed(0x2020202020202020L, n), 200);
            bounds.refused("201 by " + n, () -> holding(201 - bytes), FULL, x -> x.feed(0x2020202020202020L, bytes));
            bounds.refused("feed of a full tape by " + n, Stage::full, FULL, x -> x.feed(0x2020202020202020L, bytes));
        }
        for (int n : new int[] {0, -1, 9, Integer.MIN_VALUE, Integer.MAX_VALUE}) {
            bounds.refused("BAD ahead of FULL by " + n, Stage::full, BAD, x -> x.feed(0, n));
        }
        FallCards x = holding(199);
        x.feed(';', 1);
        due.is("the 200th byte is read", x.cards(), -299);
        due.says("cards() uses it up");
        for (int i = 1; i <= 25; i++) {
            due.is("room for 200 again", x.feed(0x2020202020202020L, 8), 8 * i);
        }
        due.is("and no more", x.feed(32, 1), FULL);
        due.is("blanks alone", x.cards(), 0);
        due.is("used up by success, too", x.many(2), 0);
        due.is("nothing to read", x.cards(), 0);
    }

    private static void cardNumbers() {
        due.says("a KIND (0 to 5), WEIGHT (1 to 99), WIDE (1 to 9), CLIP (-4 to 4). BAD");
        bounds.ends("card of a kind", Stage::rich, 0, 5, BAD, (x, v) -> x.card(v, 50, 5, 0));
        bounds.ends("card of a weight", Stage::rich, 1, 99, BAD, (x, v) -> x.card(0, v, 5, 0));
        bounds.ends("card of a width", Stage::rich, 1, 9, BAD, (x, v) -> x.card(0, 50, v, 0));
        bounds.ends("card of a clip", Stage::rich, -4, 4, BAD, (x, v) -> x.card(0, 50, 5, v));
        int[][] ends = {{0, 1, 1, -4}, {5, 99, 9, 4}, {0, 99, 1, 4}, {5, 1, 9, -4}};
        for (int[] c : ends) {
            FallCards x = new FallCards();
            due.is("a card at its ends", x.card(c[0], c[1], c[2], c[3]), 0);
            due.is("its kind", x.cardOf(0, 0), c[0]);
            due.is("its weight", x.cardOf(0, 1), c[1]);
            due.is("its width", x.cardOf(0, 2), c[2]);
            due.is("its clip and 10 more", x.cardOf(0, 3), c[3] + 10);
        }
    }

    private static void cardRoom() {
        due.says("CARDS, 6 at most, numbered as they come. FULL");
        FallCards x = new FallCards();
        for (int i = 0; i < 6; i++) {
            due.is("many ahead", x.many(0), i);
            due.is("its number", x.card(i, 90 - i, 9 - i, 4 - i), i);
        }
        due.is("six", x.many(0), 6);
        for (int i = 0; i < 6; i++) {
            due.is("kind " + i, x.cardOf(i, 0), i);
            due.is("weight " + i, x.cardOf(i, 1), 90 - i);
        }
        bounds.refused("a seventh", Stage::full, FULL, y -> y.card(0, 1, 1, 0));
        int[][] bad = {{6, 1, 1, 0}, {-1, 1, 1, 0}, {0, 0, 1, 0}, {0, 100, 1, 0}, {0, 1, 0, 0}, {0, 1, 10, 0}, {0, 1, 1, 5}, {0, 1, 1, -5}};
        for (int[] b : bad) {
            bounds.refused("BAD ahead of FULL", Stage::full, BAD, y -> y.card(b[0], b[1], b[2], b[3]));
        }
        FallCards y = Stage.full();
        y.cards();
        due.is("room again behind cards()", y.card(3, 3, 3, 3), 0);
    }

    private static void cardOf() {
        due.says("Of a CARD: what = 0 KIND, 1 WEIGHT, 2 WIDE, 3 CLIP and 10 more. BAD");
        bounds.ends("cardOf of three", Stage::rich, 0, 2, BAD, (x, v) -> x.cardOf(v, 0));
        bounds.ends("cardOf of six", Stage::full, 0, 5, BAD, (x, v) -> x.cardOf(v, 3));
        bounds.ends("what of a card", Stage::rich, 0, 3, BAD, (x, v) -> x.cardOf(1, v));
        bounds.refused("cardOf of none", Stage::fresh, BAD, x -> x.cardOf(0, 0));
        FallCards x = Stage.full();
        x.cards();
        for (int i = 0; i < 6; i++) {
            due.is("cards that are no more", x.cardOf(i, 0), BAD);
        }
        bounds.asks("a card that is asked", Stage::rich, y -> y.cardOf(0, 3), 13);
    }

    private static void laws() {
        due.says("LAWS, each 0 to 63: a LAW becomes v: what it was. BAD");
        bounds.ends("set", Stage::rich, 0, 5, BAD, (x, v) -> x.set(v, 7));
        for (int law = 0; law < 6; law++) {
            int which = law;
            bounds.ends("law " + law, Stage::rich, 0, 63, BAD, (x, v) -> x.set(which, v));
            FallCards x = new FallCards();
            x.set(law, 0);
            due.is("0 was taken", x.set(law, 63), 0);
            due.is("63 was taken", x.set(law, 63), 63);
            due.is("it stays", x.set(law, 1), 63);
        }
        FallCards x = new FallCards();
        int[] first = {16, 8, 24, 20, 12, 32};
        for (int law = 0; law < 6; law++) {
            due.is("law at first " + law, x.set(law, 63 - law), first[law]);
        }
        for (int law = 0; law < 6; law++) {
            due.is("each its own " + law, x.set(law, 0), 63 - law);
        }
        bounds.refused("both not as told", Stage::rich, BAD, y -> y.set(6, 64));
    }

    private static void lawsReach() {
        due.says("5 WIND (0 to 63, less 32; 32 at first)");
        // Each quotient is cut towards 0: 3 either way of 32 blow nothing.
        for (int wind = 0; wind < 64; wind++) {
            FallCards x = Stage.plainSteady();
            x.set(5, wind);
            x.letGo(0, 9999, 0, 0);
            x.tick(1);
            int off = wind < 32 ? 32 - wind : wind - 32;
            due.is("side by wind " + wind, x.air(6), wind < 32 ? 0 - off / 4 : off / 4);
        }
        FallCards x = Stage.plainSteady();
        x.letGo(0, 9999, 0, 0);
        x.tick(400);
        due.is("no wind at first", x.air(2), 0);
    }

    private static void hand() {
        due.says("five WEIGHTS 0 to 4 (0 to 9 each; 0, 0, 1, 0, 0 at first). BAD");
        bounds.ends("hand", Stage::rich, 0, 4, BAD, (x, v) -> x.hand(v, 7));
        for (int i = 0; i < 5; i++) {
            int which = i;
            bounds.ends("weight " + i, Stage::rich, 0, 9, BAD, (x, v) -> x.hand(which, v));
        }
        FallCards x = new FallCards();
        int[] first = {0, 0, 1, 0, 0};
        for (int i = 0; i < 5; i++) {
            due.is("hand at first " + i, x.hand(i, 9 - i), first[i]);
        }
        for (int i = 0; i < 5; i++) {
            due.is("each its own " + i, x.hand(i, 9), 9 - i);
        }
        due.is("45 at most", x.many(4), 45);
    }

    private static FallCards alone(int i, int weight) {
        FallCards x = new FallCards();
        x.hand(i, weight);
        if (i != 2) {
            x.hand(2, 0);
        }
        return x;
    }

    private static void handOfNothing() {
        due.says("STATE: all would be 0");
        for (int i = 0; i < 5; i++) {
            int which = i;
            for (int weight : new int[] {1, 9}) {
                bounds.refused("hand " + i + " alone", () -> alone(which, weight), STATE, x -> x.hand(which, 0));
                due.is("it alone", alone(i, weight).many(4), weight);
            }
            FallCards x = alone(i, 2);
            due.is("a 0 that was 0", x.hand((i + 1) % 5, 0), 0);
            due.is("1 is enough", x.hand(i, 1), 2);
            due.is("1 of all", x.many(4), 1);
            x.hand((i + 1) % 5, 1);
            due.is("another one is there", x.hand(i, 0), 1);
            due.is("that one alone", x.many(4), 1);
        }
        bounds.refused("BAD ahead of STATE", () -> alone(4, 1), BAD, x -> x.hand(5, 0));
        bounds.refused("BAD ahead of STATE", () -> alone(0, 1), BAD, x -> x.hand(-1, 0));
    }

    private static void sine() {
        due.says("of 0 to 9: 0, 174, ..; of 10 to 18 that of 18 less a; of 19 to 35 0 less that of a less 18. BAD");
        bounds.ends("sine", Stage::rich, 0, 35, BAD, (x, v) -> x.sine(v));
        int[] first = {0, 174, 342, 500, 643, 766, 866, 940, 985, 1000};
        FallCards x = new FallCards();
        for (int a = 0; a <= 9; a++) {
            due.is("sine of " + a, x.sine(a), 1000 + first[a]);
            due.is("sine of " + (18 - a), x.sine(18 - a), 1000 + first[a]);
            due.is("sine of " + (18 + a), x.sine(18 + a), 1000 - first[a]);
            if (a > 0) {
                due.is("sine of " + (36 - a), x.sine(36 - a), 1000 - first[a]);
            }
        }
        bounds.asks("the least sine is no refusal", Stage::rich, y -> y.sine(27), 0);
    }
}
