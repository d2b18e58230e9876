/** The bounds that promises 35 and 36 name, sentence by sentence. */
public final class KeptBoundsTest {
    private static final Due due = new Due();
    private static final Bounds bounds = new Bounds(due);
    private static final int NONE = -3, NO = Integer.MIN_VALUE;

    public static void main(String[] args) {
        nothingKept();
        keepChangesNothing();
        theyBecome();
        whichStays();
        theLatest();
        eachByItself();
        noneOfTheRest();
        whatIsKeptIsApart();
        fullAndEmpty();
        due.end("KeptBoundsTest");
    }

    private static void nothingKept() {
        due.says("NONE: nothing is kept");
        bounds.refused("again of a new object", Stage::fresh, NONE, x -> x.again());
        bounds.refused("again of one with cards", Stage::full, NONE, x -> x.again());
        bounds.refused("again of one with sheets", Stage::sheets, NONE, x -> x.again());
        FallCards x = Stage.full();
        x.again();
        due.is("keep behind a refusal", x.keep(), 1);
        due.is("again then", x.again(), 6);
    }

    private static void keepChangesNothing() {
        due.says("CARDS, LAWS, HAND, THE AIR and z are kept: 1");
        Stage.Maker[] all = {Stage::fresh, Stage::rich, Stage::full, Stage::landed, Stage::emptyAir, Stage::sheets};
        for (Stage.Maker m : all) {
            FallCards x = m.make();
            due.is("keep", x.keep(), 1);
            due.same("keep changes nothing", Look.all(x), Look.all(m.make()));
        }
    }

    private static void spoil(FallCards x) {
        x.cards();
        x.card(1, 1, 1, 1);
        for (int law = 0; law < 6; law++) {
            x.set(law, 63);
        }
        for (int i = 0; i < 5; i++) {
            x.hand(i, 9);
        }
        x.letGo(0, 77, 7, 7);
        x.tick(3);
        x.seed(123456);
    }

    private static void theyBecome() {
        due.says("They become what was kept latest: how many CARDS");
        Stage.Maker[] all = {Stage::fresh, Stage::rich, Stage::full, Stage::landed, Stage::emptyAir, Stage::sheets};
        int[] cards = {0, 3, 6, 3, 2, 1};
        for (int i = 0; i < all.length; i++) {
            FallCards x = all[i].make();
            x.keep();
            spoil(x);
            due.is("again", x.again(), cards[i]);
            due.same("the world again", Look.world(x), Look.world(all[i].make()));
        }
    }

    private static void whichStays() {
        due.says("(which stays)");
        FallCards x = Stage.full();
        x.keep();
        for (int i = 0; i < 3; i++) {
            spoil(x);
            due.is("again", x.again(), 6);
        }
        due.same("the third time", Look.world(x), Look.world(Stage.full()));
    }

    private static void theLatest() {
        due.says("what was kept latest");
        FallCards x = new FallCards();
        for (int n = 0; n < 6; n++) {
            x.keep();
            x.card(n, 1, 1, 0);
            due.is("one fewer", x.again(), n);
            x.card(n, 1, 1, 0);
        }
        x.keep();
        spoil(x);
        due.is("six", x.again(), 6);
        due.is("the sixth", x.cardOf(5, 0), 5);
    }

    private static void eachByItself() {
        due.says("CARDS, LAWS, HAND, THE AIR and z are kept");
        for (int law = 0; law < 6; law++) {
            FallCards x = new FallCards();
            x.set(law, 40 + law);
            x.keep();
            x.set(law, 3);
            x.again();
            due.is("law " + law, x.set(law, 0), 40 + law);
        }
        for (int i = 0; i < 5; i++) {
            FallCards x = new FallCards();
            x.hand(i, 3 + i);
            x.keep();
            x.hand(i, 9);
            x.again();
            due.is("hand " + i, x.hand(i, 1), 3 + i);
        }
        FallCards z = new FallCards();
        z.seed(-4);
        z.keep();
        z.seed(9);
        z.again();
        due.is("z", z.seed(1), -4);
        for (int what = 0; what < 4; what++) {
            FallCards x = new FallCards();
            x.card(5, 50, 5, 3);
            x.keep();
            x.cards();
            x.card(2, 20, 2, 2);
            x.again();
            due.is("card's " + what, x.cardOf(0, what), new int[] {5, 50, 5, 13}[what]);
        }
        FallCards x = Stage.rich();
        x.keep();
        x.gust(99, 99);
        x.tick(7);
        x.again();
        for (int what = 0; what < 9; what++) {
            due.is("air " + what, x.air(what), Stage.rich().air(what));
        }
        FallCards y = Stage.rich();
        due.is("it goes on alike", x.tick(400), y.tick(400));
        due.same("and lands alike", Look.world(x), Look.world(y));
    }

    private static void noneOfTheRest() {
        due.says("They become (and no other): ROWS, THE TAPE, SHEETS, SHELVES and THE TRACE stay");
        FallCards x = Stage.rich();
        x.again();
        FallCards y = Stage.rich();
        due.same("rows", Look.rows(x), Look.rows(y));
        due.is("tape", x.many(2), y.many(2));
        for (int s = 0; s < 3; s++) {
            due.is("sheet " + s, x.item(s, s, 1), 100 + s);
        }
        due.is("a row on a shelf", x.taken(1, 12), 3);
        due.is("trace", x.trace(5), 12);
        due.is("a card on a shelf, by its number", x.taken(0, 0), -11);
        due.is("nothing is there", x.act(0, 0, 1), 0);
        due.is("the tape can still be read", x.cards(), 1);
    }

    private static void whatIsKeptIsApart() {
        due.says("CARDS, LAWS, HAND, THE AIR and z are kept: what comes later is not");
        FallCards x = Stage.full();
        x.keep();
        x.cards();
        for (int i = 0; i < 6; i++) {
            x.card(0, 90, 9, -4);
        }
        due.is("again", x.again(), 6);
        due.same("the first six", Look.world(x), Look.world(Stage.full()));
        x.cards();
        x.card(1, 1, 1, 1);
        due.is("what was kept is no more than that", x.again(), 6);
        x.set(0, 1);
        x.tick(9);
        x.again();
        due.same("once more", Look.world(x), Look.world(Stage.full()));
    }

    private static void fullAndEmpty() {
        due.says("THE AIR .. kept: also that nothing is in it");
        FallCards x = Stage.emptyAir();
        x.keep();
        x.letGo(0, 9, 0, 0);
        due.is("again", x.again(), 2);
        due.is("nothing in the air", x.air(0), NO);
        due.is("tick", x.tick(1), -4);
        due.is("let go anew", x.letGo(0, 9, 0, 0), -9);
        FallCards y = Stage.landed();
        y.keep();
        y.letGo(0, 900, 0, 0);
        y.again();
        due.is("landed again", y.air(8), 1);
        due.is("no gust", y.gust(0, 0), -4);
        FallCards full = Stage.full();
        full.keep();
        full.again();
        due.is("full again", full.card(0, 1, 1, 0), -2);
        FallCards none = new FallCards();
        none.keep();
        for (int i = 0; i < 6; i++) {
            none.card(0, 1, 1, 0);
        }
        due.is("none again", none.again(), 0);
        due.is("room again", none.card(0, 1, 1, 0), 0);
    }
}
