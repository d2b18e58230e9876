/** The bounds that 'Terms' 3 names of sheets, shelves and acts, and promises 27 to 34, sentence by sentence. */
public final class HostBoundsTest {
    private static final Due due = new Due();
    private static final Bounds bounds = new Bounds(due);
    private static final int BAD = -1, NONE = -3, NOTHING = -11, OUTSIDE = -12, OTHER = -13, BELOW = -14, BY_0 = -15;
    private static final int MAX = Integer.MAX_VALUE, MIN = Integer.MIN_VALUE;

    public static void main(String[] args) {
        sheetNumbers();
        sheetLengths();
        sheetMissing();
        sheetAllZero();
        putNumbers();
        putNarrowed();
        itemNumbers();
        itemRefusals();
        itemLowAsRefusals();
        shelfNumbers();
        shelfThings();
        shelfByNumber();
        shelfRow();
        takenNumbers();
        takenKinds();
        takenRows();
        actNothing();
        actNumbers();
        actWraps();
        actShares();
        actOrder();
        trace();
        many();
        due.end("HostBoundsTest");
    }

    private static void sheetNumbers() {
        due.says("SHEETS 0 to 3 are rows of bytes (sort 0), shorts (1), ints (2) or longs (3), or missing (sort -1). BAD: no such SHEET, sort");
        bounds.ends("sheet", Stage::rich, 0, 3, BAD, (x, v) -> x.sheet(v, 1, 2));
        bounds.ends("sheet, missing", Stage::rich, 0, 3, BAD, (x, v) -> x.sheet(v, -1, 0));
        bounds.ends("sort", Stage::rich, -1, 3, BAD, (x, v) -> x.sheet(0, v, 2));
        for (int sheet = 0; sheet < 4; sheet++) {
            for (int sort = 0; sort < 4; sort++) {
                FallCards x = new FallCards();
                due.is("sheet " + sheet + " of sort " + sort, x.sheet(sheet, sort, 2), 1);
                for (int s = 0; s < 4; s++) {
                    for (int as = 0; as < 4; as++) {
                        due.is("item of " + s + " as " + as, x.item(s, as, 1), s != sheet ? NOTHING : as == sort ? 0 : OTHER);
                    }
                }
            }
        }
    }

    private static void sheetLengths() {
        due.says("40 at most. BAD: n above 40; -14 (a size below 0)");
        for (int sort = 0; sort < 4; sort++) {
            int s = sort;
            for (int n : new int[] {0, 1, 39, 40}) {
                FallCards x = new FallCards();
                due.is("sheet of " + n, x.sheet(3, sort, n), 1);
                due.is("the last", x.item(3, sort, n - 1), n == 0 ? OUTSIDE : 0);
                due.is("behind it", x.item(3, sort, n), OUTSIDE);
                due.is("the first", x.item(3, sort, 0), n == 0 ? OUTSIDE : 0);
            }
            for (int n : new int[] {41, 42, 256, 65536, MAX}) {
                bounds.refused("sheet of " + n, Stage::rich, BAD, x -> x.sheet(0, s, n));
            }
            for (int n : new int[] {-1, -2, -256, -65536, MIN, MIN + 40}) {
                bounds.refused("sheet of " + n, Stage::rich, BELOW, x -> x.sheet(0, s, n));
                bounds.refused("a sheet that is missing, of " + n, Stage::rich, BELOW, x -> x.sheet(3, s, n));
                bounds.refused("BAD ahead of -14, sheet", Stage::rich, BAD, x -> x.sheet(4, s, n));
                bounds.refused("BAD ahead of -14, sheet below", Stage::rich, BAD, x -> x.sheet(-1, s, n));
            }
        }
        bounds.refused("BAD ahead of -14, sort", Stage::rich, BAD, x -> x.sheet(0, 4, -1));
        bounds.refused("BAD ahead of -14, sort below", Stage::rich, BAD, x -> x.sheet(0, -2, -1));
        bounds.refused("BAD twice", Stage::rich, BAD, x -> x.sheet(4, 4, 41));
    }

    private static void sheetMissing() {
        due.says("or missing (sort -1; n counts nothing then): 1");
        for (int n : new int[] {0, 1, 40, 41, -1, MAX, MIN}) {
            for (int sheet = 0; sheet < 4; sheet++) {
                FallCards x = Stage.sheets();
                due.is("missing by " + n, x.sheet(sheet, -1, n), 1);
                due.is("item of none", x.item(sheet, sheet, 0), NOTHING);
                due.is("put to none", x.put(sheet, 0, 1), NOTHING);
                int next = (sheet + 1) % 4;
                due.is("the next one stays", x.item(next, next, 3), 7 + next);
                due.is("missing once more", x.sheet(sheet, -1, n), 1);
                x.sheet(sheet, sheet, 4);
                due.is("all 0 then", x.item(sheet, sheet, 3), 0);
            }
        }
    }

    private static void sheetAllZero() {
        due.says("A SHEET becomes a row of n of a sort, all 0");
        for (int from = 0; from < 4; from++) {
            for (int to = 0; to < 4; to++) {
                FallCards x = new FallCards();
                x.sheet(1, from, 40);
                for (int i = 0; i < 40; i++) {
                    x.put(1, i, -1);
                }
                due.is("made anew", x.sheet(1, to, 40), 1);
                for (int i = 0; i < 40; i++) {
                    due.is("item " + i, x.item(1, to, i), 0);
                }
            }
        }
        FallCards x = new FallCards();
        x.sheet(1, 2, 40);
        x.put(1, 39, 5);
        x.sheet(1, 2, 3);
        x.sheet(1, 2, 40);
        due.is("what was behind a shorter one", x.item(1, 2, 39), 0);
    }

    private static void putNumbers() {
        due.says("Item i becomes v: 1. BAD: no such SHEET; -11; -12");
        bounds.ends("put to a sheet", Stage::sheets, 0, 3, BAD, (x, v) -> x.put(v, 0, 5));
        bounds.ends("BAD ahead of -12", Stage::sheets, 0, 3, BAD, (x, v) -> x.put(v, 4, 5));
        bounds.ends("BAD ahead of -11", Stage::fresh, 0, 3, BAD, (x, v) -> x.put(v, 0, 5));
        for (int sheet = 0; sheet < 4; sheet++) {
            int s = sheet;
            bounds.ends("put to a place", Stage::sheets, 0, 3, OUTSIDE, (x, v) -> x.put(s, v, 5));
            for (int i : new int[] {0, -1, 40, MAX, MIN}) {
                bounds.refused("-11 ahead of -12", Stage::fresh, NOTHING, x -> x.put(s, i, 5));
            }
        }
        bounds.ends("put to the last of forty", Stage::full, 0, 39, OUTSIDE, (x, v) -> x.put(0, v, 5));
        FallCards empty = new FallCards();
        empty.sheet(0, 0, 0);
        due.is("put to a row of none", empty.put(0, 0, 1), OUTSIDE);
        FallCards x = Stage.full();
        for (int i = 0; i < 40; i++) {
            due.is("put", x.put(0, i, i + 1), 1);
        }
        for (int i = 0; i < 40; i++) {
            due.is("each its own", x.item(0, 0, i), i + 1);
        }
    }

    private static void putNarrowed() {
        due.says("narrowed to its sort; of longs the lowest 32 bits");
        int[] vs = {0, 1, -1, 127, 128, 129, 255, 256, 257, -128, -129, -256, 32767, 32768, 32769, 65535, 65536, 65537, -32768, -32769, MAX, MIN,
            MAX - 1, MIN + 1, 0x12345678, 0x00FF7F80, -65536};
        for (int sort = 0; sort < 4; sort++) {
            FallCards x = new FallCards();
            x.sheet(2, sort, 3);
            for (int v : vs) {
                int bits = sort == 0 ? 8 : sort == 1 ? 16 : 32;
                due.is("put " + v, x.put(2, 1, v), 1);
                due.is(v + " as sort " + sort, x.item(2, sort, 1), v << 32 - bits >> 32 - bits);
                due.is("the one ahead", x.item(2, sort, 0), 0);
                due.is("the one behind", x.item(2, sort, 2), 0);
            }
        }
    }

    private static void itemNumbers() {
        due.says("Item i, taken for a sort (0 to 3). BAD: no such SHEET, sort");
        bounds.ends("item of a sheet", Stage::sheets, 0, 3, BAD, (x, v) -> x.item(v, 0, 0));
        bounds.ends("item of a sort", Stage::sheets, 0, 3, BAD, (x, v) -> x.item(2, v, 0));
        for (int sheet = 0; sheet < 4; sheet++) {
            int s = sheet;
            bounds.ends("item of a place", Stage::sheets, 0, 3, OUTSIDE, (x, v) -> x.item(s, s, v));
            bounds.asks("the item", Stage::sheets, x -> x.item(s, s, 3), 7 + s);
        }
        bounds.ends("item of forty", Stage::full, 0, 39, OUTSIDE, (x, v) -> x.item(0, 0, v));
    }

    private static void itemRefusals() {
        due.says("BAD; -11; -13; -12 (the first named is answered)");
        for (int sheet = 0; sheet < 4; sheet++) {
            for (int sort = 0; sort < 4; sort++) {
                int s = sheet;
                int as = sort;
                for (int i : new int[] {0, 3, 4, -1, 40, MAX, MIN}) {
                    boolean outside = i < 0 || i > 3;
                    int want = as != s ? OTHER : outside ? OUTSIDE : i == 3 ? 7 + s : 0;
                    due.is("item " + i + " of sheet " + s + " as " + as, Stage.sheets().item(s, as, i), want);
                    due.is("of one that is missing", new FallCards().item(s, as, i), NOTHING);
                }
                bounds.refused("-13", Stage::sheets, as != s ? OTHER : OUTSIDE, x -> x.item(s, as, 4));
                bounds.refused("-11 ahead of -12", Stage::fresh, NOTHING, x -> x.item(s, as, -1));
            }
            int s = sheet;
            for (int i : new int[] {0, 4, -1}) {
                bounds.refused("BAD ahead of -11, sort", Stage::fresh, BAD, x -> x.item(s, 4, i));
                bounds.refused("BAD ahead of -11, sort below", Stage::fresh, BAD, x -> x.item(s, -1, i));
                bounds.refused("BAD ahead of -13, sheet", Stage::sheets, BAD, x -> x.item(4, s, i));
                bounds.refused("BAD ahead of -13, sheet below", Stage::sheets, BAD, x -> x.item(-1, s, i));
            }
        }
        due.is("a row of none, another sort", emptyRow().item(1, 0, 0), OTHER);
        due.is("a row of none", emptyRow().item(1, 1, 0), OUTSIDE);
    }

    private static FallCards emptyRow() {
        FallCards x = new FallCards();
        x.card(0, 1, 1, 0);
        x.sheet(1, 1, 0);
        return x;
    }

    private static void itemLowAsRefusals() {
        due.says("(An item may be as low as these, too.)");
        for (int sort = 0; sort < 4; sort++) {
            FallCards x = new FallCards();
            x.sheet(0, sort, 20);
            for (int i = 0; i < 20; i++) {
                x.put(0, i, -i);
            }
            for (int i = 0; i < 20; i++) {
                due.is("item", x.item(0, sort, i), -i);
            }
        }
    }

    private static void shelfNumbers() {
        due.says("BAD: no such SHELF, what, thing");
        bounds.ends("shelf, a card", Stage::rich, 0, 3, BAD, (x, v) -> x.shelf(v, 0, 0));
        bounds.ends("shelf, a row", Stage::rich, 0, 3, BAD, (x, v) -> x.shelf(v, 1, 0));
        bounds.ends("shelf, nothing", Stage::rich, 0, 3, BAD, (x, v) -> x.shelf(v, 2, 0));
        bounds.ends("what", Stage::rich, 0, 2, BAD, (x, v) -> x.shelf(0, v, 0));
        bounds.ends("a card of three", Stage::rich, 0, 2, BAD, (x, v) -> x.shelf(0, 0, v));
        bounds.ends("a card of six", Stage::full, 0, 5, BAD, (x, v) -> x.shelf(0, 0, v));
        bounds.ends("a sheet", Stage::rich, 0, 3, BAD, (x, v) -> x.shelf(0, 1, v));
        bounds.refused("no card at all", Stage::fresh, BAD, x -> x.shelf(0, 0, 0));
        bounds.refused("no such shelf, what, thing", Stage::rich, BAD, x -> x.shelf(4, 3, 9));
        for (int n : new int[] {0, -1, 4, 6, MAX, MIN}) {
            FallCards x = Stage.rich();
            due.is("nothing, whatever n: " + n, x.shelf(0, 2, n), 1);
            due.is("nothing there", x.taken(0, 0), NOTHING);
            bounds.refused("nothing on no shelf", Stage::rich, BAD, y -> y.shelf(4, 2, n));
        }
    }

    private static void shelfThings() {
        due.says("A SHELF holds CARD n (what 0), the row of SHEET n (1; nothing, if missing), nothing (2): 1");
        for (int shelf = 0; shelf < 4; shelf++) {
            FallCards x = Stage.sheets();
            x.card(3, 5, 5, 0);
            x.sheet(2, -1, 0);
            due.is("a card", x.shelf(shelf, 0, 1), 1);
            due.is("it is there", x.taken(shelf, 3), 1);
            due.is("a row", x.shelf(shelf, 1, 3), 1);
            due.is("it is there", x.taken(shelf, 13), 4);
            due.is("no card any more", x.taken(shelf, 3), OTHER);
            due.is("a card again", x.shelf(shelf, 0, 1), 1);
            due.is("no row any more", x.taken(shelf, 13), OTHER);
            due.is("a sheet that is missing", x.shelf(shelf, 1, 2), 1);
            due.is("nothing", x.taken(shelf, 3), NOTHING);
            due.is("nothing for a row", x.taken(shelf, 12), NOTHING);
            x.sheet(2, 2, 4);
            due.is("nothing still", x.taken(shelf, 12), NOTHING);
            x.shelf(shelf, 1, 3);
            due.is("nothing", x.shelf(shelf, 2, 0), 1);
            due.is("nothing there", x.taken(shelf, 13), NOTHING);
        }
        FallCards x = Stage.full();
        for (int shelf = 0; shelf < 4; shelf++) {
            x.shelf(shelf, 0, 5 - shelf);
        }
        for (int shelf = 0; shelf < 4; shelf++) {
            due.is("each its own", x.taken(shelf, 0), 5 - shelf);
        }
    }

    private static void shelfByNumber() {
        due.says("hold a CARD (by its number; nothing, if there is no such one any more)");
        FallCards x = new FallCards();
        for (int i = 0; i < 6; i++) {
            x.card(i, 10, 1, 0);
        }
        x.shelf(0, 0, 0);
        x.shelf(1, 0, 1);
        x.shelf(2, 0, 5);
        Due.read(x, "x");
        due.is("a fault changes nothing", x.taken(2, 0), 5);
        due.is("one card", Due.read(x, "winged 50 wide 9;"), 1);
        due.is("by its number", x.taken(0, 5), 0);
        due.is("its acts are the new one's", x.act(0, 1, 1), -2);
        due.is("no such one any more", x.taken(1, 0), NOTHING);
        due.is("nothing for a row", x.taken(1, 10), NOTHING);
        due.is("nor of six", x.taken(2, 0), NOTHING);
        due.is("no act of it", x.act(1, 0, 1), 0);
        due.is("no card at all", x.cards(), 0);
        due.is("nor the first", x.taken(0, 0), NOTHING);
        FallCards y = new FallCards();
        y.keep();
        y.card(1, 1, 1, 0);
        y.shelf(0, 0, 0);
        y.again();
        due.is("gone by again()", y.taken(0, 1), NOTHING);
    }

    private static void shelfRow() {
        due.says("a SHEET's row");
        for (int sort = 0; sort < 4; sort++) {
            FallCards x = Stage.sheets();
            x.shelf(3, 1, sort);
            x.put(sort, 0, 99);
            due.is("behind a put", x.taken(3, 10 + sort), 4);
            due.is("a refused sheet", x.sheet(sort, sort, 41), BAD);
            due.is("the row stays", x.taken(3, 10 + sort), 4);
            x.sheet(sort, -1, 0);
            due.is("the sheet holds another", x.taken(3, 10 + sort), 4);
            x.sheet(sort, (sort + 1) % 4, 9);
            due.is("and another", x.taken(3, 10 + sort), 4);
            x.shelf(3, 1, sort);
            due.is("the new one", x.taken(3, 10 + (sort + 1) % 4), 9);
        }
    }

    private static void takenNumbers() {
        due.says("BAD: no such SHELF, as; -11; -13");
        bounds.ends("shelf", Stage::rich, 0, 3, BAD, (x, v) -> x.taken(v, 0));
        bounds.ends("shelf for a row", Stage::rich, 0, 3, BAD, (x, v) -> x.taken(v, 12));
        for (int as : new int[] {-1, 6, 7, 8, 9, 14, 15, 256, 266, -2, MAX, MIN}) {
            for (int shelf = 0; shelf < 4; shelf++) {
                int s = shelf;
                bounds.refused("as " + as, Stage::rich, BAD, x -> x.taken(s, as));
            }
        }
        for (int as = 0; as < 14; as = as == 5 ? 10 : as + 1) {
            int a = as;
            bounds.refused("nothing as " + as, Stage::rich, NOTHING, x -> x.taken(2, a));
            bounds.refused("no shelf as " + as, Stage::rich, BAD, x -> x.taken(4, a));
            bounds.refused("no shelf below as " + as, Stage::rich, BAD, x -> x.taken(-1, a));
        }
    }

    private static void takenKinds() {
        due.says("taken for a thing of KIND as (0 to 5, or one under it): its number; -13 a thing of another sort or kind");
        int[] over = {-1, 0, 0, 0, 1, 3};
        for (int kind = 0; kind < 6; kind++) {
            for (int as = 0; as < 6; as++) {
                boolean under = as == kind || as == over[kind] || as == 0;
                int k = kind;
                int a = as;
                Stage.Maker six = () -> {
                    FallCards x = Stage.full();
                    x.shelf(2, 0, k);
                    return x;
                };
                bounds.asks("kind " + kind + " as " + as, six, x -> x.taken(2, a), under ? kind : OTHER);
            }
            for (int as = 10; as < 14; as++) {
                FallCards x = Stage.full();
                x.shelf(2, 0, kind);
                due.is("kind " + kind + " as a row", x.taken(2, as), OTHER);
            }
        }
    }

    private static void takenRows() {
        due.says("for a row of sort as - 10 (as 10 to 13): how many items");
        for (int sort = 0; sort < 4; sort++) {
            for (int n : new int[] {0, 1, 40}) {
                FallCards x = new FallCards();
                x.sheet(0, sort, n);
                x.shelf(1, 1, 0);
                for (int as = 10; as < 14; as++) {
                    due.is("sort " + sort + " as " + as, x.taken(1, as), as - 10 == sort ? n : OTHER);
                }
                for (int as = 0; as < 6; as++) {
                    due.is("a row as a thing", x.taken(1, as), OTHER);
                }
            }
        }
    }

    private static void actNothing() {
        due.says("0, and no TRACE then: no such SHELF, act, nothing, a row");
        int[][] none = {{4, 0}, {-1, 0}, {MAX, 0}, {MIN, 0}, {3, 4}, {3, -1}, {3, MAX}, {3, MIN}, {2, 0}, {2, 3}, {1, 0}, {1, 3}, {4, 4}, {2, 4},
            {1, -1}, {259, 0}, {3, 256}};
        for (int[] n : none) {
            FallCards x = Stage.rich();
            due.is("a trace ahead", x.many(3), 6);
            due.is("act(" + n[0] + ", " + n[1] + ", 5)", x.act(n[0], n[1], 5), 0);
            due.is("no trace", x.many(3), 0);
            due.is("no body", x.trace(0), NONE);
            due.same("nothing else changes", Look.world(x) + Look.rows(x), Look.world(Stage.rich()) + Look.rows(Stage.rich()));
        }
        FallCards x = new FallCards();
        due.is("an act of a new object", x.act(0, 0, 5), 0);
        due.is("no trace", x.many(3), 0);
    }

    private static FallCards holding(int kind, int number, int weight) {
        FallCards x = new FallCards();
        for (int i = 0; i < number; i++) {
            x.card(0, 99, 1, 0);
        }
        x.card(kind, weight, 1, 0);
        x.shelf(1, 0, number);
        return x;
    }

    private static void acts(FallCards x, int act, int arg, int want, int... bodies) {
        due.is("act " + act + " with " + arg, x.act(1, act, arg), want);
        due.is("many bodies", x.many(3), bodies.length);
        for (int i = 0; i < bodies.length; i++) {
            due.is("body " + i, x.trace(i), bodies[i]);
        }
        due.is("behind the last body", x.trace(bodies.length), NONE);
    }

    private static void actNumbers() {
        due.says("0 falls, 1 turns, 2 shares, 3 tells; n: its number, a: its WEIGHT");
        for (int n = 0; n < 6; n++) {
            for (int a : new int[] {1, 6, 7, 50, 99}) {
                if (a != n) {
                    int q = 1000 / (a - n);
                    acts(holding(0, n, a), 0, 1000, 1000 + n, 10);
                    acts(holding(0, n, a), 1, 1000, (1000 + n) * 2, 11, 10);
                    acts(holding(0, n, a), 2, 1000, q, 12);
                    acts(holding(0, n, a), 3, 1000, (1000 + n) * 2 ^ a, 13, 11, 10);
                    acts(holding(1, n, a), 1, 1000, (1000 + n) * 2 - a, 20, 11, 10);
                    acts(holding(1, n, a), 3, 1000, (1000 + n) * 2 - a ^ a, 13, 20, 11, 10);
                    acts(holding(2, n, a), 0, 1000, (1000 + n) * 3, 30, 10);
                    acts(holding(2, n, a), 1, 1000, (1000 + n) * 6, 11, 30, 10);
                    acts(holding(2, n, a), 3, 1000, ((1000 + n) * 6 ^ a) + n / (a - n), 31, 13, 11, 30, 10, 12);
                    acts(holding(3, n, a), 1, 1000, 0 - (1000 + n) * 2, 40, 11, 10);
                    acts(holding(3, n, a), 3, 1000, 0 - (1000 + n) * 2 ^ a, 13, 40, 11, 10);
                    acts(holding(4, n, a), 0, 1000, 1000, 51, 10);
                    acts(holding(4, n, a), 1, 1000, 2000 - a, 20, 11, 51, 10);
                    acts(holding(4, n, a), 2, 1000, 1002 / (a - n) ^ 1, 50, 12);
                    acts(holding(4, n, a), 3, 1000, 2000 - a ^ a, 13, 20, 11, 51, 10);
                    acts(holding(5, n, a), 1, 1000, 0 - (1000 + n) * 2, 40, 11, 10);
                    acts(holding(5, n, a), 2, 1000, q + a + n, 61, 12, 10);
                    acts(holding(5, n, a), 3, 1000, (0 - (1000 + n) * 2 ^ a) * 2, 60, 13, 40, 11, 10);
                }
            }
        }
    }

    private static void actWraps() {
        due.says("with a number x (ints that wrap)");
        for (int x : new int[] {MAX, MIN, MAX - 1, MIN + 1, 1 << 30, -(1 << 30), 1 << 29, 0x2AAAAAAB}) {
            int n = 5;
            int a = 9;
            acts(holding(0, n, a), 0, x, (int) ((long) x + n), 10);
            acts(holding(0, n, a), 1, x, (int) (((long) x + n) * 2), 11, 10);
            acts(holding(0, n, a), 2, x, (int) ((long) x / 4), 12);
            acts(holding(0, n, a), 3, x, (int) (((long) x + n) * 2 ^ a), 13, 11, 10);
            acts(holding(1, n, a), 1, x, (int) (((long) x + n) * 2 - a), 20, 11, 10);
            acts(holding(2, n, a), 0, x, (int) (((long) x + n) * 3), 30, 10);
            acts(holding(2, n, a), 3, x, (int) ((((long) x + n) * 6 ^ a) + 1), 31, 13, 11, 30, 10, 12);
            acts(holding(3, n, a), 1, x, (int) (0 - ((long) x + n) * 2), 40, 11, 10);
            acts(holding(4, n, a), 0, x, x, 51, 10);
            // What is shared is an int that has wrapped already.
            acts(holding(4, n, a), 2, x, (int) ((long) x + 2) / 4 ^ 1, 50, 12);
            acts(holding(5, n, a), 2, x, (int) ((long) x / 4 + a + n), 61, 12, 10);
            acts(holding(5, n, a), 3, x, (int) ((0 - ((long) x + n) * 2 ^ a) * 2), 60, 13, 40, 11, 10);
        }
        // 4 less 5: the least by -1 is itself.
        acts(holding(0, 5, 4), 2, MIN, MIN, 12);
        acts(holding(0, 5, 4), 2, MAX, -MAX, 12);
        acts(holding(4, 5, 4), 2, MAX - 1, MIN ^ 1, 50, 12);
        acts(holding(5, 5, 4), 2, MIN, MIN + 9, 61, 12, 10);
    }

    private static void actShares() {
        due.says("x by (a - n), the rest away (-15 if these are the same; that is all that act() answers then)");
        for (int x = -7; x <= 7; x++) {
            int cut = x < 0 ? -(-x / 3) : x / 3;
            acts(holding(0, 2, 5), 2, x, cut, 12);
            acts(holding(0, 5, 2), 2, x, -cut, 12);
        }
        for (int n = 1; n < 6; n++) {
            for (int kind = 0; kind < 6; kind++) {
                for (int x : new int[] {0, 1, -1, MAX, MIN}) {
                    due.is("shares, kind " + kind + " of " + n, holding(kind, n, n).act(1, 2, x), BY_0);
                }
            }
            acts(holding(0, n, n), 2, 7, BY_0, 12);
            acts(holding(4, n, n), 2, 7, BY_0, 50, 12);
            acts(holding(5, n, n), 2, 7, BY_0, 61, 12);
            acts(holding(2, n, n), 3, 7, BY_0, 31, 13, 11, 30, 10, 12);
            acts(holding(2, n, n), 0, 7, (7 + n) * 3, 30, 10);
            acts(holding(0, n, n), 3, 7, (7 + n) * 2 ^ n, 13, 11, 10);
            acts(holding(5, n, n), 3, 7, (0 - (7 + n) * 2 ^ n) * 2, 60, 13, 40, 11, 10);
            acts(holding(0, n, n + 1), 2, 7, 7, 12);
            acts(holding(0, n, n == 1 ? 3 : n - 1), 2, 8, n == 1 ? 4 : -8, 12);
            FallCards x = holding(2, n, n);
            acts(x, 3, 7, BY_0, 31, 13, 11, 30, 10, 12);
            acts(x, 1, 0, n * 6, 11, 30, 10);
            due.is("the world stays", x.many(0), n + 1);
        }
    }

    private static void actOrder() {
        due.says("THE TRACE: numbers of the bodies that ran in the latest act(), as they began (left first)");
        FallCards x = holding(2, 1, 9);
        acts(x, 3, 0, (6 ^ 9) + 0, 31, 13, 11, 30, 10, 12);
        acts(x, 0, 0, 3, 30, 10);
        acts(x, 2, 80, 10, 12);
        due.is("many asks nothing of it", x.many(3), 1);
        Due.read(x, "swinging 3 wide 2; swinging 5 wide 2;");
        due.is("cards() leaves it", x.trace(0), 12);
        x.keep();
        x.again();
        due.is("again() leaves it", x.trace(0), 12);
        x.shelf(1, 2, 0);
        due.is("shelf() leaves it", x.trace(0), 12);
    }

    private static void trace() {
        due.says("THE TRACE's i-th body. NONE; the first 30 are kept");
        bounds.ends("trace of six", Stage::rich, 0, 5, NONE, (x, v) -> x.trace(v));
        bounds.ends("trace of three", Stage::sheets, 0, 2, NONE, (x, v) -> x.trace(v));
        for (int i : new int[] {0, -1, 1, 29, 30, 31, MAX, MIN}) {
            bounds.refused("trace of none, " + i, Stage::fresh, NONE, x -> x.trace(i));
        }
        int[] bodies = {31, 13, 11, 30, 10, 12};
        for (int i = 0; i < 6; i++) {
            int at = i;
            bounds.asks("body " + i, Stage::rich, x -> x.trace(at), bodies[i]);
        }
    }

    private static void many() {
        due.says("what = 0 CARDS, 1 ROWS, 2 bytes of THE TAPE, 3 bodies of THE TRACE, 4 WEIGHTS of HAND together. BAD: another what");
        bounds.ends("many", Stage::rich, 0, 4, BAD, (x, v) -> x.many(v));
        bounds.ends("many of a new object", Stage::fresh, 0, 4, BAD, (x, v) -> x.many(v));
        int[] rich = {3, 3, 25, 6, 15};
        int[] full = {6, 20, 200, 0, 1};
        int[] fresh = {0, 0, 0, 0, 1};
        for (int what = 0; what < 5; what++) {
            int w = what;
            bounds.asks("many " + what, Stage::rich, x -> x.many(w), rich[what]);
            bounds.asks("many of all that is full, " + what, Stage::full, x -> x.many(w), full[what]);
            bounds.asks("many of a new object, " + what, Stage::fresh, x -> x.many(w), fresh[what]);
        }
    }
}
