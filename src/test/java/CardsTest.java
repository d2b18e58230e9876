/** Promises 1 to 8: a new object, feed, cards, card, cardOf, set, hand, sine. */
public final class CardsTest {
    private static final Due due = new Due();

    public static void main(String[] args) {
        newObject();
        feed();
        cardsRead();
        faults();
        nothingOfAnEarlierTape();
        faultChangesNothing();
        successClears();
        card();
        laws();
        hand();
        sine();
        due.end("CardsTest");
    }

    private static void newObject() {
        FallCards x = new FallCards();
        for (int what = 0; what < 4; what++) {
            due.is("many of a new object " + what, x.many(what), 0);
        }
        due.is("weights of a new hand", x.many(4), 1);
        due.is("air of a new object", x.air(0), FallCards.NO);
        due.is("again of a new object", x.again(), -3);
        due.is("cardOf of a new object", x.cardOf(0, 0), -1);
        int[] laws = {16, 8, 24, 20, 12, 32};
        for (int i = 0; i < 6; i++) {
            due.is("law at first " + i, x.set(i, 1), laws[i]);
        }
        int[] weights = {0, 0, 1, 0, 0};
        for (int i = 0; i < 5; i++) {
            due.is("hand at first " + i, x.hand(i, 3), weights[i]);
        }
        due.is("z at first", x.seed(4), 1);
        for (int i = 0; i < 4; i++) {
            due.is("sheet at first", x.item(i, 0, 0), -11);
            due.is("shelf at first", x.taken(i, 0), -11);
        }
        due.is("row at first", x.row(0, 0), FallCards.NO);
        due.is("trace at first", x.trace(0), -3);
    }

    private static void feed() {
        FallCards x = new FallCards();
        due.is("feed 0", x.feed(32, 0), -1);
        due.is("feed 9", x.feed(32, 9), -1);
        due.is("feed -1", x.feed(32, -1), -1);
        due.is("nothing fed", x.many(2), 0);
        for (int i = 1; i <= 24; i++) {
            due.is("feed blanks", x.feed(0x2020202020202020L, 8), 8 * i);
        }
        due.is("feed to 199", x.feed(0x2020202020202020L, 7), 199);
        due.is("feed past 200", x.feed(0x2020L, 2), -2);
        due.is("full changes nothing", x.many(2), 199);
        due.is("feed BAD ahead of FULL", x.feed(0, 9), -1);
        due.is("feed to 200", x.feed(0x20, 1), 200);
        due.is("feed to 201", x.feed(0x20, 1), -2);
        due.is("blanks alone", x.cards(), 0);
        due.is("used up", x.many(2), 0);
        FallCards y = new FallCards();
        y.feed(0xFFFFFF0000003B33L, 2);
        due.is("lowest first, n alone", y.many(2), 2);
        due.is("3; is a fault at 0", y.cards(), -100);
    }

    private static void cardsRead() {
        FallCards x = new FallCards();
        due.is("six kinds", Due.read(x, "fall 1 wide 1;steady 99 wide 9 clip 4; swinging 07 wide 03 clip -4 ;"
            + " turning 8 wide 2 clip - 0; righted 9 wide 5clip3; winged10wide4;lift 1;"), 6);
        int[][] want = {{0, 1, 1, 10}, {1, 99, 9, 14}, {2, 7, 3, 6}, {3, 8, 2, 10}, {4, 9, 5, 13}, {5, 10, 4, 10}};
        for (int i = 0; i < 6; i++) {
            for (int what = 0; what < 4; what++) {
                due.is("cardOf " + i + " " + what, x.cardOf(i, what), want[i][what]);
            }
        }
        due.is("lift told", x.set(0, 1), 1);
        due.is("laws told", Due.read(x, "lift 0;drag 1;edge 2;spin 3;damp 4;wind 5;drag 63; hand 9 0 0 0 0;hand 0 1 2 3 4;"), 0);
        int[] laws = {0, 63, 2, 3, 4, 5};
        for (int i = 0; i < 6; i++) {
            due.is("law told " + i, x.set(i, laws[i]), laws[i]);
        }
        for (int i = 0; i < 5; i++) {
            due.is("hand told " + i, x.hand(i, 9), i);
        }
        due.is("these alone", Due.read(x, "  winged 3 wide 4 ; "), 1);
        due.is("others stay", x.set(1, 7), 63);
        due.is("others of hand stay", x.many(4), 45);
    }

    private static void fault(String text, int place) {
        FallCards x = new FallCards();
        due.is("cards of '" + text + "'", Due.read(x, text), -100 - place);
        due.is("tape behind a fault", x.many(2), 0);
        due.is("cards behind a fault", x.many(0), 0);
    }

    private static void faults() {
        fault("fall", 4);
        fault("fall  ", 6);
        fault("fall 3 wide", 11);
        fault("fall 3 wide 2", 13);
        fault("fall 3 wide 2 clip", 18);
        fault("fall 3 wide 2 clip -", 20);
        fault("fall 3 wide 2 clip - 1", 22);
        fault("fall 3 wide 2 clip - - 1;", 21);
        fault("fall 3 wide 2 clip 1 clip 1;", 21);
        fault("fall 3 wide 2 wide 2;", 14);
        fault("fall 3 clip 2;", 7);
        fault("fall wide 2;", 5);
        fault("fall -3 wide 2;", 5);
        fault("fall 3 wide 10;", 12);
        fault("fall 3 wide 002;", 12);
        fault("fall 3 wide 0;", 12);
        fault("fall 00 wide 1;", 5);
        fault("fall 123 wide 1;", 5);
        fault("fall 999999999999999 wide 1;", 5);
        fault("fall 3 wide 2 clip 04;;", 22);
        fault("fall 3 wide 2 clip 05;", 19);
        fault("falls 3 wide 2;", 0);
        fault("fal 3 wide 2;", 0);
        fault("Fall 3 wide 2;", 0);
        fault("fall 3 wides 2;", 7);
        fault("fall 3 wide 2 clips 2;", 14);
        fault("fall 3\twide 2;", 6);
        fault("fall 3 wide 2;x", 14);
        fault("fall 3 wide 2; " + (char) 233, 15);
        fault("clip 3;", 0);
        fault("wide 3;", 0);
        fault("3 fall", 0);
        fault("lift;", 4);
        fault("lift 1 2;", 7);
        fault("lift -1;", 5);
        fault("wind 64;", 5);
        fault("edge 100;", 5);
        fault("spin 63;damp 64;", 13);
        fault("hand 1 2 3 4 5 6;", 15);
        fault("hand 12345;", 5);
        fault("hand 10 1 1 1 1;", 5);
        fault("hand 0 0 0 0 00;", 13);
        fault("hand 0 0 0 0 0", 13);
        fault("hand 0 0 0 0 0;hand 1 1 1 1 1;", 13);
        fault("hand 0 0 0 0", 12);
        String six = "fall 1 wide 1;fall 1 wide 1;fall 1 wide 1;fall 1 wide 1;fall 1 wide 1;fall 1 wide 1;";
        fault(six + " winged", 85);
        fault(six + " lift 3; fall", 93);
        due.is("a fifth N of 1", Due.read(new FallCards(), "hand 0 0 0 0 1;"), 0);
        due.is("six and a law", Due.read(new FallCards(), six + " lift 3; "), 6);
    }

    /** What an earlier tape left behind the end of this one is not read. */
    private static void nothingOfAnEarlierTape() {
        String[][] tapes = {{"fall 3 wide 2;", "fall 3 wide 2"}, {"falls 3;", "fall"}, {"lift 123;", "lift 12"},
            {"fall 3 wide 2 clip 3;", "fall 3 wide 2 clip"}};
        for (String[] t : tapes) {
            FallCards x = new FallCards();
            Due.read(x, t[0]);
            due.is("'" + t[1] + "' behind '" + t[0] + "'", Due.read(x, t[1]), -100 - t[1].length());
        }
    }

    private static void faultChangesNothing() {
        FallCards x = new FallCards();
        x.card(2, 3, 4, 1);
        x.letGo(0, 50, 3, 1);
        x.prove(3);
        String ahead = Look.all(x);
        due.is("a fault behind much", Due.read(x, "lift 1; hand 1 1 1 1 1; fall 3 wide 2; winged 2 wide 2; drag;"), -160);
        due.is("a fault changes nothing", Look.all(x).equals(ahead) ? 1 : 0, 1);
    }

    private static void successClears() {
        FallCards x = new FallCards();
        x.card(2, 3, 4, 1);
        x.letGo(0, 50, 3, 1);
        x.prove(3);
        due.is("rows ahead", x.many(1), 3);
        due.is("an empty tape", x.cards(), 0);
        due.is("no cards", x.many(0), 0);
        due.is("no rows", x.many(1), 0);
        due.is("no row", x.row(0, 0), FallCards.NO);
        due.is("nothing in the air", x.air(0), FallCards.NO);
        x.card(2, 3, 4, 1);
        due.is("let go anew", x.letGo(0, 50, 3, 1), -9);
    }

    private static void card() {
        FallCards x = new FallCards();
        int[][] bad = {{-1, 1, 1, 0}, {6, 1, 1, 0}, {0, 0, 1, 0}, {0, 100, 1, 0}, {0, 1, 0, 0}, {0, 1, 10, 0}, {0, 1, 1, -5},
            {0, 1, 1, 5}, {Integer.MIN_VALUE, 1, 1, 0}, {0, Integer.MAX_VALUE, 1, 0}};
        for (int[] b : bad) {
            due.is("card not as told", x.card(b[0], b[1], b[2], b[3]), -1);
        }
        due.is("no card came", x.many(0), 0);
        int[][] good = {{0, 1, 1, -4}, {1, 99, 9, 4}, {2, 50, 5, 0}, {3, 2, 3, 1}, {4, 8, 8, -1}, {5, 7, 6, 2}};
        for (int i = 0; i < 6; i++) {
            due.is("card " + i, x.card(good[i][0], good[i][1], good[i][2], good[i][3]), i);
        }
        due.is("a seventh", x.card(0, 1, 1, 0), -2);
        due.is("BAD ahead of FULL", x.card(6, 1, 1, 0), -1);
        due.is("six cards", x.many(0), 6);
        for (int i = 0; i < 6; i++) {
            due.is("kind", x.cardOf(i, 0), good[i][0]);
            due.is("weight", x.cardOf(i, 1), good[i][1]);
            due.is("wide", x.cardOf(i, 2), good[i][2]);
            due.is("clip", x.cardOf(i, 3), good[i][3] + 10);
        }
        due.is("cardOf what 4", x.cardOf(0, 4), -1);
        due.is("cardOf what -1", x.cardOf(0, -1), -1);
        due.is("cardOf 6", x.cardOf(6, 0), -1);
        due.is("cardOf -1", x.cardOf(-1, 0), -1);
    }

    private static void laws() {
        FallCards x = new FallCards();
        for (int law = 0; law < 6; law++) {
            x.set(law, 63);
            due.is("law was", x.set(law, 0), 63);
            due.is("law 64", x.set(law, 64), -1);
            due.is("law -1", x.set(law, -1), -1);
            due.is("law stays", x.set(law, 10 + law), 0);
        }
        due.is("no law 6", x.set(6, 0), -1);
        due.is("no law -1", x.set(-1, 0), -1);
        due.is("law 3", x.set(3, 0), 13);
    }

    private static void hand() {
        FallCards x = new FallCards();
        due.is("hand 5", x.hand(5, 1), -1);
        due.is("hand -1", x.hand(-1, 1), -1);
        due.is("weight 10", x.hand(0, 10), -1);
        due.is("weight -1", x.hand(0, -1), -1);
        due.is("all would be 0", x.hand(2, 0), -4);
        due.is("BAD ahead of STATE", x.hand(5, 0), -1);
        due.is("it stays", x.many(4), 1);
        due.is("a 0 that was 0", x.hand(0, 0), 0);
        due.is("hand 4", x.hand(4, 9), 0);
        due.is("hand 2", x.hand(2, 0), 1);
        due.is("together", x.many(4), 9);
        due.is("hand 4 can't go", x.hand(4, 0), -4);
        due.is("hand 4 stays", x.hand(4, 8), 9);
    }

    private static void sine() {
        FallCards x = new FallCards();
        int[] want = {0, 174, 342, 500, 643, 766, 866, 940, 985, 1000, 985, 940, 866, 766, 643, 500, 342, 174, 0,
            -174, -342, -500, -643, -766, -866, -940, -985, -1000, -985, -940, -866, -766, -643, -500, -342, -174};
        for (int a = 0; a < 36; a++) {
            due.is("sine " + a, x.sine(a), want[a] + 1000);
        }
        due.is("sine -1", x.sine(-1), -1);
        due.is("sine 36", x.sine(36), -1);
        due.is("sine of the least", x.sine(Integer.MIN_VALUE), -1);
    }
}
