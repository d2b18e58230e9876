/** Promises 35 and 36: keep, again. */
public final class KeptTest {
    private static final Due due = new Due();

    public static void main(String[] args) {
        nothingKept();
        wholeStateComesBack();
        whatIsNotKept();
        emptyAirIsKept();
        due.end("KeptTest");
    }

    private static void nothingKept() {
        FallCards x = new FallCards();
        x.card(0, 1, 1, 0);
        String ahead = Look.all(x);
        due.is("nothing is kept", x.again(), -3);
        due.is("nothing changes", Look.all(x).equals(ahead) ? 1 : 0, 1);
    }

    private static FallCards begun() {
        FallCards x = new FallCards();
        Due.read(x, "winged 3 wide 2 clip 1; fall 9 wide 1; lift 3; hand 1 2 3 4 5;");
        x.seed(77);
        x.letGo(1, 300, 3, 2);
        x.tick(3);
        return x;
    }

    private static void spoil(FallCards x) {
        Due.read(x, "steady 50 wide 2; wind 9; drag 1; hand 0 0 0 0 9;");
        x.seed(-5);
        x.letGo(0, 9, 9, 9);
        x.tick(1);
    }

    private static void wholeStateComesBack() {
        FallCards x = begun();
        String ahead = Look.world(x);
        due.is("keep", x.keep(), 1);
        due.is("keep changes nothing", Look.world(x).equals(ahead) ? 1 : 0, 1);
        for (int i = 0; i < 2; i++) {
            spoil(x);
            due.is("again", x.again(), 2);
            due.is("all of it, " + i, Look.world(x).equals(ahead) ? 1 : 0, 1);
        }
        x.tick(5);
        x.card(2, 2, 2, 2);
        String later = Look.world(x);
        due.is("keep later", x.keep(), 1);
        spoil(x);
        due.is("the latest", x.again(), 3);
        due.is("the latest whole", Look.world(x).equals(later) ? 1 : 0, 1);
        FallCards y = begun();
        y.tick(5);
        x.tick(4);
        y.tick(4);
        due.is("it goes on the same way", x.air(2) * 1000 + x.air(5), y.air(2) * 1000 + y.air(5));
    }

    private static void whatIsNotKept() {
        FallCards x = begun();
        x.keep();
        x.prove(5);
        x.feed(0x20, 1);
        x.sheet(0, 2, 3);
        x.put(0, 1, 8);
        x.shelf(0, 0, 1);
        x.act(0, 1, 1);
        due.is("again", x.again(), 2);
        due.is("rows", x.many(1), 5);
        due.is("tape", x.many(2), 1);
        due.is("trace", x.many(3), 2);
        due.is("sheet", x.item(0, 2, 1), 8);
        due.is("shelf", x.taken(0, 0), 1);
        FallCards y = new FallCards();
        y.keep();
        y.card(1, 1, 1, 0);
        y.shelf(3, 0, 0);
        due.is("no cards again", y.again(), 0);
        due.is("its shelf holds nothing", y.taken(3, 1), -11);
    }

    private static void emptyAirIsKept() {
        FallCards x = new FallCards();
        x.card(0, 1, 1, 0);
        x.keep();
        x.letGo(0, 9, 0, 0);
        due.is("again", x.again(), 1);
        due.is("nothing in the air", x.air(0), FallCards.NO);
        due.is("STATE", x.tick(1), -4);
    }
}
