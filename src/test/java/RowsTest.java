/** Promises 23 to 26: prove, row, alterRow, judge. */
public final class RowsTest {
    private static final Due due = new Due();
    private static final int NO = FallCards.NO;

    public static void main(String[] args) {
        refusals();
        rows();
        landing();
        judging();
        due.end("RowsTest");
    }

    private static FallCards falling(int height) {
        FallCards x = Due.plain();
        x.set(5, 63);
        x.card(0, 8, 1, 1);
        x.letGo(0, height, 34, 0);
        return x;
    }

    private static void refusals() {
        FallCards x = new FallCards();
        due.is("BAD ahead of STATE", x.prove(0), -1);
        due.is("nothing in the air", x.prove(1), -4);
        due.is("judge of nothing", x.judge(), -4);
        due.is("no row", x.row(0, 0), NO);
        due.is("no row to alter", x.alterRow(0, 0, 1), NO);
        FallCards y = falling(999);
        due.is("prove 20", y.prove(20), 20);
        due.is("prove 0", y.prove(0), -1);
        due.is("prove 21", y.prove(21), -1);
        due.is("prove -1", y.prove(-1), -1);
        due.is("rows stay", y.many(1), 20);
        int[][] bad = {{20, 0}, {-1, 0}, {0, 3}, {0, -1}, {Integer.MAX_VALUE, 0}, {Integer.MIN_VALUE, 2}};
        for (int[] b : bad) {
            due.is("row not there", y.row(b[0], b[1]), NO);
            due.is("row to alter not there", y.alterRow(b[0], b[1], 7), NO);
        }
        due.is("all is still right", y.judge(), 0);
    }

    private static void rows() {
        FallCards x = falling(100);
        due.is("prove 3", x.prove(3), 3);
        // side is 7, 14, 21; down 8, 16, 24; turn 1, 2, 3
        int[][] want = {{0, 99, 35}, {1, 97, 1}, {3, 94, 4}};
        for (int i = 0; i < 3; i++) {
            for (int what = 0; what < 3; what++) {
                due.is("row " + i + " " + what, x.row(i, what), want[i][what]);
            }
        }
        due.is("many rows", x.many(1), 3);
        due.is("alter row 2", x.alterRow(2, 1, 5), 94);
        due.is("row 2 altered", x.row(2, 1), 5);
        due.is("nothing changes", x.air(1), 0);
        due.is("nothing changes", x.air(3), 100);
        x.tick(2);
        due.is("prove 1", x.prove(1), 1);
        due.is("the next tick", x.row(0, 1), 94);
        due.is("these alone", x.row(1, 1), NO);
        due.is("alter", x.alterRow(0, 2, Integer.MIN_VALUE), 4);
        due.is("altered", x.row(0, 2), Integer.MIN_VALUE);
        due.is("alter again", x.alterRow(0, 2, -5), Integer.MIN_VALUE);
        due.is("altered again", x.row(0, 2), -5);
        due.is("the others stay", x.row(0, 0), 3);
        x.letGo(0, 9, 9, 9);
        due.is("rows outlast a letting go", x.many(1), 1);
    }

    private static void landing() {
        FallCards x = falling(6);
        due.is("as far as it goes", x.prove(20), 3);
        due.is("the landing is a row", x.row(2, 1), 0);
        due.is("judge", x.judge(), 0);
        x.tick(1);
        due.is("they are not those of now", x.judge(), 1);
        x.tick(2);
        due.is("landed: no row is right", x.judge(), 1);
        due.is("landed: no rows", x.prove(20), 0);
        due.is("judge of no rows", x.judge(), 0);
        due.is("none", x.many(1), 0);
    }

    private static void judging() {
        FallCards x = falling(100);
        due.is("no rows are right", x.judge(), 0);
        x.prove(5);
        for (int i = 4; i >= 0; i--) {
            for (int what = 0; what < 3; what++) {
                int was = x.row(i, what);
                x.alterRow(i, what, was + 1);
                due.is("judge row " + i, x.judge(), i + 1);
                x.alterRow(i, what, was);
                due.is("judge mended", x.judge(), 0);
            }
        }
        x.alterRow(4, 0, 99);
        x.alterRow(2, 1, 99);
        due.is("the first that isn't", x.judge(), 3);
        x.prove(5);
        x.set(5, 0);
        due.is("by the laws of now", x.judge(), 1);
        x.set(5, 63);
        due.is("by the laws again", x.judge(), 0);
        x.prove(20);
        // The same beginning, but lower: it lands with the third tick, and rows behind that are none of it.
        x.letGo(0, 6, 34, 0);
        x.prove(3);
        int[][] three = new int[3][3];
        for (int i = 0; i < 9; i++) {
            three[i / 3][i % 3] = x.row(i / 3, i % 3);
        }
        x.letGo(0, 100, 34, 0);
        x.prove(5);
        x.letGo(0, 6, 34, 0);
        for (int i = 0; i < 9; i++) {
            x.alterRow(i / 3, i % 3, three[i / 3][i % 3]);
        }
        due.is("a row behind its landing", x.judge(), 4);
    }
}
