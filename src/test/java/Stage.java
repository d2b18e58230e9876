/** Objects in states in which calls are tried; each is made anew, always alike. */
final class Stage {
    interface Maker {
        FallCards make();
    }

    private Stage() {
    }

    /** Something of everything, nothing at its end, and another world kept. */
    static FallCards rich() {
        FallCards x = new FallCards();
        x.card(4, 70, 3, -1);
        x.set(2, 31);
        x.hand(3, 4);
        x.seed(99);
        x.letGo(0, 888, 20, 0);
        x.keep();
        Due.read(x, "fall 9 wide 4 clip 3; winged 20 wide 2; swinging 2 wide 1; lift 20; wind 50; hand 1 2 3 4 5;");
        x.seed(-77);
        x.letGo(1, 600, 5, -2);
        x.tick(4);
        x.prove(3);
        x.alterRow(1, 1, -5);
        Due.tape(x, "righted 6 wide 5; drag 3;");
        for (int s = 0; s < 3; s++) {
            x.sheet(s, s, 3);
            x.put(s, 1, 100 + s);
        }
        x.shelf(0, 0, 1);
        x.shelf(1, 1, 2);
        x.shelf(3, 0, 2);
        x.act(3, 3, 11);
        return x;
    }

    /** As rich, but that what is in the air has landed. */
    static FallCards landed() {
        FallCards x = rich();
        x.letGo(0, 5, 0, 1);
        x.tick(400);
        return x;
    }

    /** As rich, but that nothing is in the air; rows are there. */
    static FallCards emptyAir() {
        FallCards x = new FallCards();
        x.card(0, 9, 4, 3);
        x.card(5, 20, 2, 0);
        x.keep();
        x.letGo(1, 500, 9, 0);
        x.prove(4);
        x.again();
        x.sheet(2, 2, 2);
        x.shelf(2, 0, 1);
        x.act(2, 3, 5);
        Due.tape(x, "damp 7;");
        return x;
    }

    /** Six cards, 200 bytes on the tape, twenty rows, sheets of forty. */
    static FallCards full() {
        FallCards x = new FallCards();
        for (int i = 0; i < 6; i++) {
            x.card(i, 10 + i, 1 + i, i - 2);
        }
        Due.tape(x, "lift 1;" + " ".repeat(192) + " ");
        x.letGo(5, 9999, 0, 0);
        x.prove(20);
        x.sheet(0, 0, 40);
        return x;
    }

    /** A card and, of all sorts, sheets. */
    static FallCards sheets() {
        FallCards x = new FallCards();
        x.card(2, 12, 1, 0);
        for (int sort = 0; sort < 4; sort++) {
            x.sheet(sort, sort, 4);
            x.put(sort, 3, 7 + sort);
        }
        x.shelf(0, 0, 0);
        x.shelf(1, 1, 1);
        x.act(0, 1, 3);
        return x;
    }

    /** One steady card of weight 8 under plain laws: the n-th tick falls n, from 6 it lands with the third. */
    static FallCards plainSteady() {
        FallCards x = Due.plain();
        x.card(1, 8, 1, 0);
        return x;
    }

    static FallCards fresh() {
        return new FallCards();
    }
}
