/** Promises 27 to 34: sheet, put, item, shelf, taken, act, trace, many. */
public final class HostTest {
    private static final Due due = new Due();

    public static void main(String[] args) {
        sheets();
        items();
        shelves();
        taken();
        goneCards();
        acts();
        parting();
        noAct();
        many();
        due.end("HostTest");
    }

    private static void sheets() {
        FallCards x = new FallCards();
        due.is("no sheet 4", x.sheet(4, 0, 1), -1);
        due.is("no sheet -1", x.sheet(-1, 0, 1), -1);
        due.is("no sort 4", x.sheet(0, 4, 1), -1);
        due.is("no sort -2", x.sheet(0, -2, 1), -1);
        due.is("41", x.sheet(0, 0, 41), -1);
        due.is("below 0", x.sheet(0, 0, -1), -14);
        due.is("far below 0", x.sheet(0, 3, Integer.MIN_VALUE), -14);
        due.is("BAD first", x.sheet(0, 4, -1), -1);
        due.is("still missing", x.item(0, 0, 0), -11);
        for (int sort = 0; sort < 4; sort++) {
            due.is("40", x.sheet(sort, sort, 40), 1);
            due.is("the last", x.item(sort, sort, 39), 0);
            due.is("behind the last", x.item(sort, sort, 40), -12);
            x.put(sort, 39, 7);
            x.put(sort, 0, 7);
            due.is("refused", x.sheet(sort, sort, -1), -14);
            due.is("refused", x.sheet(sort, sort, 41), -1);
            due.is("it stays", x.item(sort, sort, 39), 7);
            due.is("again", x.sheet(sort, sort, 40), 1);
            due.is("all 0", x.item(sort, sort, 39), 0);
            due.is("all 0, the first too", x.item(sort, sort, 0), 0);
        }
        due.is("0 items", x.sheet(0, 1, 0), 1);
        due.is("none to see", x.item(0, 1, 0), -12);
        due.is("missing, whatever n", x.sheet(0, -1, 99), 1);
        due.is("it is missing", x.item(0, 1, 0), -11);
        due.is("missing, n below 0", x.sheet(1, -1, -99), 1);
        due.is("it is missing, too", x.put(1, 0, 0), -11);
    }

    private static void items() {
        FallCards x = new FallCards();
        due.is("put nowhere", x.put(4, 0, 1), -1);
        due.is("put nowhere", x.put(-1, 0, 1), -1);
        due.is("put into nothing", x.put(0, 0, 1), -11);
        due.is("item nowhere", x.item(4, 0, 0), -1);
        due.is("item nowhere", x.item(-1, 0, 0), -1);
        due.is("item of no sort", x.item(0, 4, 0), -1);
        due.is("item of no sort", x.item(0, -1, 0), -1);
        due.is("item of nothing", x.item(0, 0, 0), -11);
        int[] values = {0, 1, -1, 127, 128, -128, -129, 255, 256, 32767, 32768, -32768, -32769, 65535, Integer.MAX_VALUE,
            Integer.MIN_VALUE, -11, -12};
        for (int sort = 0; sort < 4; sort++) {
            x.sheet(sort, sort, 18);
            for (int i = 0; i < 18; i++) {
                due.is("put", x.put(sort, i, values[i]), 1);
            }
            for (int i = 0; i < 18; i++) {
                int want = sort == 0 ? (byte) values[i] : sort == 1 ? (short) values[i] : values[i];
                due.is("item " + i + " of sort " + sort, x.item(sort, sort, i), want);
            }
            due.is("put outside", x.put(sort, 18, 1), -12);
            due.is("put outside", x.put(sort, -1, 1), -12);
            due.is("item outside", x.item(sort, sort, 18), -12);
            due.is("item outside", x.item(sort, sort, -1), -12);
            due.is("item of another sort", x.item(sort, (sort + 1) % 4, 0), -13);
            due.is("-13 ahead of -12", x.item(sort, (sort + 3) % 4, 99), -13);
            due.is("BAD ahead of -13", x.item(sort, 4, 99), -1);
        }
    }

    private static void shelves() {
        FallCards x = new FallCards();
        x.card(0, 1, 1, 0);
        x.sheet(3, 1, 5);
        due.is("no shelf 4", x.shelf(4, 2, 0), -1);
        due.is("no shelf -1", x.shelf(-1, 2, 0), -1);
        due.is("a card", x.shelf(0, 0, 0), 1);
        int[][] bad = {{3, 0}, {-1, 0}, {0, 1}, {0, -1}, {1, 4}, {1, -1}};
        for (int[] b : bad) {
            due.is("shelf of no such thing", x.shelf(0, b[0], b[1]), -1);
        }
        due.is("it stays", x.taken(0, 0), 0);
        due.is("a row", x.shelf(0, 1, 3), 1);
        due.is("the row", x.taken(0, 11), 5);
        due.is("a row that is missing", x.shelf(0, 1, 2), 1);
        due.is("nothing then", x.taken(0, 11), -11);
        x.shelf(1, 0, 0);
        due.is("nothing, whatever n", x.shelf(1, 2, 77), 1);
        due.is("nothing there", x.taken(1, 0), -11);
        // The row itself is held: what the sheet becomes later is another row.
        x.shelf(2, 1, 3);
        x.sheet(3, 0, 9);
        due.is("the row of then", x.taken(2, 11), 5);
        due.is("not that of now", x.taken(2, 10), -13);
        x.sheet(3, -1, 0);
        due.is("still the row of then", x.taken(2, 11), 5);
    }

    private static void taken() {
        FallCards x = new FallCards();
        boolean[][] under = {
            {true, false, false, false, false, false}, {true, true, false, false, false, false},
            {true, false, true, false, false, false}, {true, false, false, true, false, false},
            {true, true, false, false, true, false}, {true, false, false, true, false, true}};
        for (int kind = 0; kind < 6; kind++) {
            x.card(kind, 9, 1, 0);
            x.shelf(1, 0, kind);
            for (int as = 0; as < 6; as++) {
                due.is("kind " + kind + " as " + as, x.taken(1, as), under[kind][as] ? kind : -13);
            }
            for (int as = 10; as < 14; as++) {
                due.is("a card as a row", x.taken(1, as), -13);
            }
        }
        for (int sort = 0; sort < 4; sort++) {
            x.sheet(sort, sort, sort * 7);
            x.shelf(2, 1, sort);
            for (int as = 10; as < 14; as++) {
                due.is("a row of sort " + sort + " as " + as, x.taken(2, as), as - 10 == sort ? sort * 7 : -13);
            }
            for (int as = 0; as < 6; as++) {
                due.is("a row as a card", x.taken(2, as), -13);
            }
        }
        int[] bad = {-1, 6, 9, 14, Integer.MIN_VALUE, Integer.MAX_VALUE};
        for (int as : bad) {
            due.is("as " + as, x.taken(2, as), -1);
            due.is("of nothing as " + as, x.taken(3, as), -1);
        }
        due.is("no shelf 4", x.taken(4, 0), -1);
        due.is("no shelf -1", x.taken(-1, 10), -1);
        due.is("nothing", x.taken(3, 0), -11);
        due.is("nothing as a row", x.taken(3, 13), -11);
    }

    private static void goneCards() {
        FallCards x = new FallCards();
        x.card(0, 9, 1, 0);
        x.card(2, 9, 1, 0);
        x.shelf(0, 0, 0);
        x.shelf(1, 0, 1);
        due.is("one card alone", Due.read(x, "winged 3 wide 1;"), 1);
        due.is("by its number", x.taken(0, 5), 0);
        due.is("no such one any more", x.taken(1, 0), -11);
        due.is("no act of it", x.act(1, 0, 5), 0);
    }

    private static void act(FallCards x, int act, int arg, int want, int... bodies) {
        due.is("act(0, " + act + ", " + arg + ")", x.act(0, act, arg), want);
        due.is("bodies", x.many(3), bodies.length);
        for (int i = 0; i < bodies.length; i++) {
            due.is("body " + i + " of act " + act, x.trace(i), bodies[i]);
        }
        due.is("behind the last body", x.trace(bodies.length), -3);
        due.is("ahead of the first", x.trace(-1), -3);
    }

    private static FallCards holding(int kind, int number, int weight) {
        FallCards x = new FallCards();
        for (int i = 0; i < number; i++) {
            x.card(0, 1, 1, 0);
        }
        x.card(kind, weight, 1, 0);
        x.shelf(0, 0, number);
        return x;
    }

    private static void acts() {
        FallCards fall = holding(0, 2, 5);
        act(fall, 0, 7, 9, 10);
        act(fall, 1, 7, 18, 11, 10);
        act(fall, 2, 7, 2, 12);
        act(fall, 2, -8, -2, 12);
        act(fall, 3, 7, 18 ^ 5, 13, 11, 10);
        act(fall, 0, Integer.MAX_VALUE, Integer.MIN_VALUE + 1, 10);
        act(fall, 1, Integer.MAX_VALUE - 2, -2, 11, 10);
        FallCards steady = holding(1, 2, 5);
        act(steady, 0, 7, 9, 10);
        act(steady, 1, 7, 13, 20, 11, 10);
        act(steady, 2, 7, 2, 12);
        act(steady, 3, 7, 13 ^ 5, 13, 20, 11, 10);
        FallCards swinging = holding(2, 2, 5);
        act(swinging, 0, 7, 27, 30, 10);
        act(swinging, 1, 7, 54, 11, 30, 10);
        act(swinging, 2, 7, 2, 12);
        act(swinging, 3, 7, 54 ^ 5, 31, 13, 11, 30, 10, 12);
        FallCards turning = holding(3, 2, 5);
        act(turning, 0, 7, 9, 10);
        act(turning, 1, 7, -18, 40, 11, 10);
        act(turning, 2, 7, 2, 12);
        act(turning, 3, 7, -18 ^ 5, 13, 40, 11, 10);
        FallCards righted = holding(4, 2, 5);
        act(righted, 0, 7, 7, 51, 10);
        act(righted, 1, 7, 14 - 5, 20, 11, 51, 10);
        act(righted, 2, 7, 3 ^ 1, 50, 12);
        act(righted, 2, 6, 2 ^ 1, 50, 12);
        act(righted, 2, Integer.MAX_VALUE, (Integer.MIN_VALUE + 1) / 3 ^ 1, 50, 12);
        act(righted, 3, 7, 9 ^ 5, 13, 20, 11, 51, 10);
        FallCards winged = holding(5, 2, 5);
        act(winged, 0, 7, 9, 10);
        act(winged, 1, 7, -18, 40, 11, 10);
        act(winged, 2, 7, 2 + 7, 61, 12, 10);
        act(winged, 3, 7, (-18 ^ 5) * 2, 60, 13, 40, 11, 10);
        FallCards minus = holding(0, 3, 2);
        act(minus, 2, 7, -7, 12);
        act(minus, 2, Integer.MIN_VALUE, Integer.MIN_VALUE, 12);
        FallCards lifted = holding(2, 4, 2);
        act(lifted, 3, 1, (5 * 3 * 2 ^ 2) - 2, 31, 13, 11, 30, 10, 12);
    }

    private static void parting() {
        act(holding(0, 3, 3), 2, 7, -15, 12);
        act(holding(0, 3, 3), 3, 7, 20 ^ 3, 13, 11, 10);
        act(holding(2, 3, 3), 3, 7, -15, 31, 13, 11, 30, 10, 12);
        act(holding(4, 3, 3), 2, 7, -15, 50, 12);
        act(holding(5, 3, 3), 2, 7, -15, 61, 12);
        FallCards x = holding(5, 3, 3);
        x.act(0, 2, 7);
        act(x, 0, 7, 10, 10);
    }

    private static void noAct() {
        FallCards x = holding(0, 2, 5);
        x.sheet(0, 0, 4);
        x.shelf(1, 1, 0);
        int[][] none = {{4, 0}, {-1, 0}, {0, 4}, {0, -1}, {1, 0}, {2, 0}};
        for (int[] n : none) {
            x.act(0, 3, 1);
            due.is("trace ahead", x.many(3), 3);
            due.is("no act", x.act(n[0], n[1], 1), 0);
            due.is("no trace then", x.many(3), 0);
            due.is("no body then", x.trace(0), -3);
        }
    }

    private static void many() {
        FallCards x = new FallCards();
        x.card(0, 1, 1, 0);
        x.letGo(0, 99, 0, 0);
        x.prove(4);
        x.feed(0, 3);
        x.shelf(0, 0, 0);
        x.act(0, 1, 1);
        x.hand(4, 6);
        int[] want = {1, 4, 3, 2, 7};
        for (int what = 0; what < 5; what++) {
            due.is("many " + what, x.many(what), want[what]);
        }
        due.is("many 5", x.many(5), -1);
        due.is("many -1", x.many(-1), -1);
    }
}
