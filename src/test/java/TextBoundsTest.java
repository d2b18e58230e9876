import java.util.Random;

/** What 'Terms' 1 says of the text on the tape, and promise 3, sentence by sentence. */
public final class TextBoundsTest {
    private static final Due due = new Due();
    private static final int NO = Integer.MIN_VALUE;
    private static final String[] KINDS = {"fall", "steady", "swinging", "turning", "righted", "winged"};
    private static final String[] LAWS = {"lift", "drag", "edge", "spin", "damp", "wind"};
    private static final String SIX = "fall 1 wide 1;".repeat(6);

    public static void main(String[] args) {
        emptyText();
        kinds();
        weights();
        widths();
        clips();
        laws();
        hands();
        lastCounts();
        othersStay();
        theseAlone();
        blanks();
        namesAsLongAsTheyGo();
        numbersAsLongAsTheyGo();
        otherBytes();
        theEnd();
        theSeventh();
        theFirstFault();
        afterFault();
        wholeTape();
        againstTheModel();
        due.end("TextBoundsTest");
    }

    private static void reads(String text, int cards) {
        due.is("cards() of '" + text + "'", Due.read(new FallCards(), text), cards);
    }

    private static void fault(String text, int place) {
        FallCards x = new FallCards();
        due.is("cards() of '" + text + "'", Due.read(x, text), -100 - place);
        due.is("many bytes behind the fault", x.many(2), 0);
    }

    private static void emptyText() {
        due.says("TEXT: { .. }: none at all is a text, too");
        due.is("an empty tape", new FallCards().cards(), 0);
        reads(" ", 0);
        FallCards x = Stage.full();
        x.cards();
        due.is("nothing on the tape, cards() again", x.cards(), 0);
        due.is("the law of the tape ahead stays", x.set(0, 0), 1);
    }

    private static void kinds() {
        due.says("KIND: fall | steady | swinging | turning | righted | winged (N behind it: WEIGHT)");
        for (int kind = 0; kind < 6; kind++) {
            FallCards x = new FallCards();
            due.is(KINDS[kind], Due.read(x, KINDS[kind] + " 37 wide 6 clip 2;"), 1);
            due.is("its kind", x.cardOf(0, 0), kind);
            due.is("its weight", x.cardOf(0, 1), 37);
            due.is("its width", x.cardOf(0, 2), 6);
            due.is("its clip", x.cardOf(0, 3), 12);
            fault(KINDS[kind].substring(1) + " 37 wide 6;", 0);
            fault(KINDS[kind].substring(0, KINDS[kind].length() - 1) + " 37 wide 6;", 0);
            fault(KINDS[kind] + "s 37 wide 6;", 0);
            fault(KINDS[kind].toUpperCase() + " 37 wide 6;", 0);
            fault(KINDS[kind] + KINDS[kind] + " 37 wide 6;", 0);
            fault(KINDS[kind] + ";", KINDS[kind].length());
            fault(KINDS[kind] + " " + KINDS[kind], KINDS[kind].length() + 1);
        }
        fault("wide 3;", 0);
        fault("clip 3;", 0);
        fault("card 3 wide 2;", 0);
    }

    private static void weights() {
        due.says("WEIGHT (1 to 99); a NUMBER out of range is a FAULT");
        for (int n = 0; n <= 99; n++) {
            FallCards x = new FallCards();
            due.is("fall " + n, Due.read(x, "fall " + n + " wide 1;"), n == 0 ? -105 : 1);
            due.is("its weight", x.cardOf(0, 1), n == 0 ? -1 : n);
        }
        reads("fall 01 wide 1;", 1);
        reads("fall 99 wide 1;", 1);
        fault("fall 00 wide 1;", 5);
        fault("fall 100 wide 1;", 5);
        fault("fall 001 wide 1;", 5);
    }

    private static void widths() {
        due.says("WIDE (1 to 9); a NUMBER out of range is a FAULT");
        for (int n = 0; n <= 99; n++) {
            FallCards x = new FallCards();
            due.is("wide " + n, Due.read(x, "fall 1 wide " + n + ";"), n == 0 || n > 9 ? -112 : 1);
            due.is("its width", x.cardOf(0, 2), n == 0 || n > 9 ? -1 : n);
        }
        reads("fall 1 wide 09;", 1);
        fault("fall 1 wide 00;", 12);
        fault("fall 1 wide 009;", 12);
    }

    private static void clips() {
        due.says("[ clip [ - ] N ]: CLIP (-4 to 4)");
        for (int n = 0; n <= 99; n++) {
            FallCards x = new FallCards();
            due.is("clip " + n, Due.read(x, "fall 1 wide 1 clip " + n + ";"), n > 4 ? -119 : 1);
            due.is("its clip", x.cardOf(0, 3), n > 4 ? -1 : 10 + n);
            FallCards y = new FallCards();
            due.is("clip -" + n, Due.read(y, "fall 1 wide 1 clip -" + n + ";"), n > 4 ? -120 : 1);
            due.is("its clip", y.cardOf(0, 3), n > 4 ? -1 : 10 - n);
        }
        FallCards x = new FallCards();
        reads("fall 1 wide 1 clip 04;", 1);
        fault("fall 1 wide 1 clip 004;", 19);
        fault("fall 1 wide 1 clip -004;", 20);
        due.is("none is 0", Due.read(x, "fall 1 wide 1;"), 1);
        due.is("none is 0", x.cardOf(0, 3), 10);
        due.is("none behind one that is clipped", Due.read(x, "fall 1 wide 1 clip -4;fall 1 wide 1;"), 2);
        due.is("none is 0", x.cardOf(1, 3), 10);
        fault("fall 1 wide 1 clip;", 18);
        fault("fall 1 wide 1 clip -;", 20);
        fault("fall 1 wide 1 clip --1;", 20);
        fault("fall 1 wide 1 clip +1;", 19);
        fault("fall 1 wide 1 clip 1-;", 20);
        fault("fall 1 wide 1 clip 1 clip 1;", 21);
        fault("fall 1 wide 1 -1;", 14);
        fault("fall 1 clip 1 wide 1;", 7);
        fault("fall 1 clip 1;", 7);
        fault("fall -1 wide 1;", 5);
        fault("fall 1 wide -1;", 12);
    }

    private static void laws() {
        due.says("LAWS, each 0 to 63");
        for (int law = 0; law < 6; law++) {
            for (int n = 0; n <= 99; n++) {
                FallCards x = new FallCards();
                x.set(law, 63 - n % 64);
                due.is(LAWS[law] + " " + n, Due.read(x, LAWS[law] + " " + n + ";"), n > 63 ? -105 : 0);
                due.is("the law then", x.set(law, 0), n > 63 ? 63 - n % 64 : n);
            }
            fault(LAWS[law] + ";", 4);
            fault(LAWS[law] + " 1 1;", 7);
            fault(LAWS[law] + " 1 wide 1;", 7);
            fault(LAWS[law] + " -1;", 5);
            fault(LAWS[law] + " 000;", 5);
            fault(LAWS[law] + "s 1;", 0);
            fault(LAWS[law].substring(0, 3) + " 1;", 0);
            reads(LAWS[law] + " 00;", 0);
        }
    }

    private static void hands() {
        due.says("hand N N N N N: 0 to 9 each; FAULT: the fifth N of hand, if all five are 0");
        for (int i = 0; i < 5; i++) {
            for (int n = 0; n <= 12; n++) {
                String[] ns = {"0", "0", "0", "0", "0"};
                ns[i] = Integer.toString(n);
                FallCards x = new FallCards();
                int want = n == 0 ? -113 : n > 9 ? -105 - 2 * i : 0;
                due.is("hand, " + n + " at " + i, Due.read(x, "hand " + String.join(" ", ns) + ";"), want);
                due.is("all weights", x.many(4), want == 0 ? n : 1);
                due.is("its own", x.hand(i, 1), want == 0 ? n : i == 2 ? 1 : 0);
            }
        }
        FallCards x = new FallCards();
        due.is("hand 9 9 9 9 9", Due.read(x, "hand 9 09 9 9 9;"), 0);
        due.is("45", x.many(4), 45);
        fault("hand 0 0 0 0 00;", 13);
        fault("hand 00 00 00 00 00;", 17);
        fault("hand 0 0 0 0 0", 13);
        fault("hand 0 0 0 0;", 12);
        fault("hand 0 0 0 0", 12);
        fault("hand 1 1 1 1 1 1;", 15);
        fault("hand;", 4);
        fault("hand 1 1;", 8);
        fault("hand 11111;", 5);
        fault("hand 1 -1 1 1 1;", 7);
        fault("hands 1 1 1 1 1;", 0);
    }

    private static void lastCounts() {
        due.says("LAWS and HAND become what is told (the last one of each counts)");
        for (int law = 0; law < 6; law++) {
            FallCards x = new FallCards();
            due.is("told three times", Due.read(x, LAWS[law] + " 1;" + LAWS[law] + " 63; fall 1 wide 1;" + LAWS[law] + " 5;"), 1);
            due.is("the last counts", x.set(law, 0), 5);
        }
        FallCards x = new FallCards();
        Due.read(x, "hand 9 9 9 9 9; hand 0 0 0 0 3;");
        due.is("the last hand counts", x.many(4), 3);
        due.is("the last hand's fifth", x.hand(4, 1), 3);
    }

    private static void othersStay() {
        due.says("others stay");
        for (int law = 0; law < 6; law++) {
            FallCards x = new FallCards();
            for (int i = 0; i < 6; i++) {
                x.set(i, 40 + i);
            }
            x.hand(1, 6);
            x.seed(12);
            Due.read(x, LAWS[law] + " 3;");
            for (int i = 0; i < 6; i++) {
                due.is("law " + i + " behind " + LAWS[law], x.set(i, 0), i == law ? 3 : 40 + i);
            }
            due.is("hand stays", x.many(4), 7);
            due.is("z stays", x.seed(1), 12);
        }
    }

    private static void theseAlone() {
        due.says("CARDS are these alone then; nothing is in THE AIR; there are no ROWS then");
        FallCards x = Stage.rich();
        due.is("one card", x.cards(), 1);
        due.same("the world then", Look.world(x), "cards 1 (4 6 5 10) laws 20 3 31 20 12 50 hand 1 2 3 4 5 air" + (" " + NO).repeat(9)
            + " z -77");
        due.same("no rows then", Look.rows(x), " rows 0");
        due.is("no row then", x.row(0, 0), NO);
        due.is("what is kept stays", x.again(), 1);
        due.is("what was kept", x.cardOf(0, 1), 70);
        FallCards y = Stage.full();
        due.is("none of six", y.cards(), 0);
        due.is("no row of twenty", y.row(19, 2), NO);
        due.is("the sheets stay", y.item(0, 0, 39), 0);
    }

    private static void blanks() {
        due.says("blanks (32) part them, and stand elsewhere as one likes");
        reads("fall 1 wide 1 clip - 1 ; lift 2 ; hand 1 2 3 4 5 ;", 1);
        reads("   fall   1   wide   1   clip   -   1   ;   ", 1);
        reads("fall 1 wide 1;fall 1 wide 1;", 2);
        fault("fal l 1 wide 1;", 0);
        fault("fall 1 wi de 1;", 7);
        fault("fall 1 wide 1 cl ip 1;", 14);
        fault("fall 1 2 wide 1;", 7);
        fault("lift 1 0;", 7);
        for (char c : new char[] {9, 10, 13, 0, 31, 33, 160}) {
            fault("fall" + c + "1 wide 1;", 4);
            fault(c + "fall 1 wide 1;", 0);
            fault("fall 1 wide 1;" + c, 14);
        }
    }

    private static void namesAsLongAsTheyGo() {
        due.says("NAMES are rows of letters a to z, as long as they go");
        fault("fall 1 widea 1;", 7);
        fault("fall 1 widez 1;", 7);
        fault("fall 1 wide 1 clipz 1;", 14);
        fault("falla 1 wide 1;", 0);
        fault("fallz 1 wide 1;", 0);
        // The bytes next to a and z are no letters: the name ends ahead of them.
        fault("fall` 1 wide 1;", 4);
        fault("fall{ 1 wide 1;", 4);
        fault("fallA 1 wide 1;", 4);
        fault("fallZ 1 wide 1;", 4);
        fault("lift" + (char) 0xE1 + " 1;", 4);
        reads("lift1;fall2wide3clip4;fall2wide3clip-4;", 2);
    }

    private static void numbersAsLongAsTheyGo() {
        due.says("NUMBERS rows of digits (1 or 2), as long as they go; of more digits: FAULT");
        reads("lift 1;", 0);
        reads("lift 12;", 0);
        fault("lift 123;", 5);
        fault("lift 001;", 5);
        fault("lift 000000000000000000000000000000000001;", 5);
        fault("lift 4294967297;", 5);
        fault("lift 18446744073709551617;", 5);
        // The bytes next to 0 and 9 are no digits: the number ends ahead of them.
        fault("lift 1/;", 6);
        fault("lift 1:;", 6);
        fault("lift 12/;", 7);
        fault("lift 1a;", 6);
        fault("lift 1" + (char) 0xB1 + ";", 6);
        fault("lift /;", 5);
        fault("lift :;", 5);
        fault("lift 1.5;", 6);
    }

    private static void otherBytes() {
        due.says("FAULT: the place of the first NAME, NUMBER or other byte that can't stand there");
        for (int c = 0; c < 256; c++) {
            boolean blank = c == 32;
            due.is("byte " + c + " alone", Due.read(new FallCards(), "" + (char) c),
                blank ? 0 : -100);
            due.is("byte " + c + " behind a law", Due.read(new FallCards(), "lift 3;" + (char) c), blank ? 0 : -107);
            boolean digit = c >= '0' && c <= '9';
            due.is("byte " + c + " for the last one", Due.read(new FallCards(), "lift 3" + (char) c),
                c == ';' ? 0 : blank ? -107 : digit ? -107 : -106);
        }
        fault(";", 0);
        fault("-1", 0);
        fault("7 fall", 0);
        fault("lift 3;;", 7);
        fault("lift 3; ;", 8);
        fault("lift;3;", 4);
    }

    private static void theEnd() {
        due.says("or the end (how many bytes there are), if more must come");
        String whole = "fall 12 wide 3 clip - 4 ;";
        // Cut off inside a name, that name is to blame; elsewhere the end is.
        for (int n = 1; n < whole.length(); n++) {
            String text = whole.substring(0, n);
            int name = text.endsWith("fall") || text.endsWith("wide") || text.endsWith("clip") ? -1 : text.lastIndexOf(' ') + 1;
            boolean inName = name >= 0 && name < n && Character.isLetter(text.charAt(name));
            fault(text, inName ? name : n);
        }
        String hand = "hand 1 2 3 4 5 ";
        for (int n = 4; n <= hand.length(); n++) {
            fault(hand.substring(0, n), n);
        }
        fault("lift", 4);
        fault("lift   ", 7);
        fault("lift 3", 6);
        fault("lift 3  ", 8);
        fault("lift 3; drag", 12);
        reads("lift 3;  ", 0);
    }

    private static void theSeventh() {
        due.says("the first NAME of a seventh CARD");
        reads(SIX, 6);
        reads(SIX + "lift 3; hand 1 1 1 1 1;", 6);
        for (String kind : KINDS) {
            fault(SIX + kind + " 1 wide 1;", 84);
            fault(SIX + "  " + kind, 86);
            fault(SIX + "lift 3;" + kind + " 0", 91);
        }
        fault(SIX + "foo", 84);
        FallCards x = Stage.full();
        x.cards();
        for (int i = 0; i < 6; i++) {
            x.card(0, 1, 1, 0);
        }
        due.is("cards from ahead don't count", Due.read(x, SIX), 6);
    }

    private static void theFirstFault() {
        due.says("FAULT: .. the first ..");
        fault("fall 0 wide 0;", 5);
        fault("fall 1 wide 0 clip 9;", 12);
        fault("lift 64; drag 64;", 5);
        fault("lift 63; drag 64; x", 14);
        fault("hand 0 0 10 0 0;", 9);
        fault("x" + SIX + "fall", 0);
        fault(SIX + "x fall", 84);
    }

    private static void afterFault() {
        due.says("such a call changes nothing (but that THE TAPE is used up by cards())");
        String[] bad = {"fall 1 wide 1; lift 9; drag 9; hand 9 9 9 9 9; seven", "lift 3; drag", "hand 9 9 9 9", "hand 1 1 1 1 1;;",
            "fall 3 wide 2 clip 2", SIX + "lift 2; fall"};
        for (String text : bad) {
            Stage.Maker used = () -> {
                FallCards x = Stage.rich();
                x.keep();
                x.cards();
                x.again();
                x.prove(2);
                return x;
            };
            FallCards x = used.make();
            due.is("a fault", Due.read(x, text) <= -100 ? 1 : 0, 1);
            due.same("behind '" + text + "'", Look.whole(x), Look.whole(used.make()));
        }
    }

    private static void wholeTape() {
        due.says("THE TAPE takes bytes, 200 at most: all of them are read");
        String laws = "lift 1;".repeat(28);
        reads(laws + "    ", 0);
        fault(laws + "lift", 200);
        fault(laws + "   x", 199);
        reads(" ".repeat(193) + "lift 1;", 0);
        fault(" ".repeat(194) + "lift 1", 200);
        FallCards x = new FallCards();
        due.is("two hundred", Due.read(x, laws + "    "), 0);
        due.is("an earlier tape is not read again", Due.read(x, "drag"), -104);
        due.is("nor behind its end", Due.read(x, "lift 1"), -106);
    }

    private static void againstTheModel() {
        due.says("TEXT, against a second reader");
        Random random = new Random(8);
        String[] words = {"fall", "steady", "swinging", "turning", "righted", "winged", "wide", "clip", "hand", "lift", "drag", "edge", "spin",
            "damp", "wind", "-", ";", "0", "1", "4", "5", "9", "10", "63", "64", "99", "100", "07", "x", "A", "falls"};
        String[] parts = {"fall 1 wide 1;", "winged 99 wide 9 clip - 4;", "hand 0 0 0 0 1;", "spin 63;", "turning 5 wide 2 clip 3;"};
        for (int run = 0; run < 6000; run++) {
            StringBuilder b = new StringBuilder();
            for (int i = random.nextInt(9); i > 0; i--) {
                b.append(parts[random.nextInt(parts.length)]).append(" ".repeat(random.nextInt(2)));
            }
            for (int i = random.nextInt(5); i > 0; i--) {
                String word = words[random.nextInt(words.length)];
                int at = random.nextInt(b.length() + 1);
                b.insert(at, word + " ".repeat(random.nextInt(2)));
            }
            for (int i = random.nextInt(3); i > 0 && b.length() > 0; i--) {
                b.deleteCharAt(random.nextInt(b.length()));
            }
            b.setLength(Math.min(200, b.length()));
            holdAgainst(b.toString());
        }
    }

    private static void holdAgainst(String text) {
        FallCards x = new FallCards();
        TextModel m = new TextModel();
        int fault = m.read(text);
        due.is("cards() of '" + text + "'", Due.read(x, text), fault >= 0 ? -100 - fault : m.cards.size());
        if (fault >= 0) {
            due.is("cards behind a fault", x.many(0), 0);
            return;
        }
        for (int i = 0; i < m.cards.size(); i++) {
            for (int what = 0; what < 4; what++) {
                due.is("cardOf of '" + text + "'", x.cardOf(i, what), m.cards.get(i)[what]);
            }
        }
        for (int i = 0; i < 6; i++) {
            due.is("law of '" + text + "'", x.set(i, 0), m.laws[i]);
        }
        for (int i = 0; i < 5; i++) {
            due.is("hand of '" + text + "'", x.hand(i, 9), m.hand[i]);
        }
    }
}
