/** The bounds that 'Terms' 3 names of rows, and promises 23 to 26, sentence by sentence. */
public final class RowsBoundsTest {
    private static final Due due = new Due();
    private static final Bounds bounds = new Bounds(due);
    private static final int BAD = -1, STATE = -4, NO = Integer.MIN_VALUE;

    public static void main(String[] args) {
        proveNumbers();
        proveState();
        asFarAsItGoes();
        nothingChanges();
        theseAlone();
        rowNumbers();
        alterNumbers();
        alterAnything();
        judgeState();
        judgeNone();
        judgeFirst();
        judgeBehindLanding();
        judgeOfNow();
        whatRowsOutlast();
        due.end("RowsBoundsTest");
    }

    /** The n-th tick falls n. */
    private static FallCards from(int height) {
        FallCards x = Stage.plainSteady();
        x.letGo(0, height, 7, 0);
        return x;
    }

    private static void proveNumbers() {
        due.says("ROWS by n (1 to 20): how many. BAD");
        bounds.ends("prove", Stage::rich, 1, 20, BAD, (x, v) -> x.prove(v));
        bounds.ends("BAD ahead of STATE", Stage::emptyAir, 1, 20, BAD, (x, v) -> x.prove(v));
        bounds.ends("BAD of a landed one", Stage::landed, 1, 20, BAD, (x, v) -> x.prove(v));
        for (int n = 1; n <= 20; n++) {
            FallCards x = from(9999);
            due.is("prove " + n, x.prove(n), n);
            due.is("many rows", x.many(1), n);
            due.is("the last row", x.row(n - 1, 1), 9999 - n * (n + 1) / 2);
            due.is("behind the last row", x.row(n, 1), NO);
        }
    }

    private static void proveState() {
        due.says("STATE: nothing is in THE AIR");
        for (int n : new int[] {1, 2, 19, 20}) {
            bounds.refused("prove " + n, Stage::emptyAir, STATE, x -> x.prove(n));
            bounds.refused("prove of a new object, " + n, Stage::fresh, STATE, x -> x.prove(n));
        }
    }

    private static void asFarAsItGoes() {
        due.says("behind each of the next n TICKS of what is in THE AIR (as far as it goes)");
        for (int ticks = 1; ticks <= 22; ticks++) {
            FallCards x = from(ticks * (ticks + 1) / 2);
            due.is("a way of " + ticks, x.prove(20), Math.min(20, ticks));
            due.is("one that is as long", from(ticks * (ticks + 1) / 2).prove(Math.min(20, ticks)), Math.min(20, ticks));
            due.is("the landing is a row", ticks > 20 ? 0 : x.row(ticks - 1, 1), 0);
            due.is("behind it there is none", x.row(Math.min(20, ticks), 1), NO);
            due.is("all is right", x.judge(), 0);
        }
        due.is("of a landed one there are none", Stage.landed().prove(20), 0);
        FallCards x = Stage.landed();
        due.is("rows ahead", x.many(1), 3);
        x.prove(1);
        due.is("none then", x.many(1), 0);
        due.is("no row then", x.row(0, 0), NO);
    }

    private static void nothingChanges() {
        due.says("(nothing changes)");
        FallCards x = Stage.rich();
        String ahead = Look.world(x);
        x.prove(20);
        due.same("behind prove", Look.world(x), ahead);
        FallCards y = Stage.rich();
        y.prove(3);
        due.same("nor the host", Look.host(y), Look.host(Stage.rich()));
        due.is("nor the tape", y.many(2), 25);
        x.tick(20);
        due.is("the way itself is as proven", x.row(19, 0), x.air(2));
        due.is("its height", x.row(19, 1), x.air(3));
        due.is("its slant", x.row(19, 2), x.air(4));
    }

    private static void theseAlone() {
        due.says("ROWS by n: how many");
        FallCards x = from(9999);
        x.prove(20);
        x.alterRow(0, 0, 55);
        due.is("fewer", x.prove(2), 2);
        due.is("these alone", x.row(2, 0), NO);
        due.is("made anew", x.row(0, 0), 0);
        x.prove(20);
        due.is("more again", x.row(19, 1), 9999 - 210);
    }

    private static void rowNumbers() {
        due.says("Of ROW i: what = 0 ACROSS, 1 HEIGHT, 2 SLANT. NO: there is none such, another what");
        bounds.ends("row of three", Stage::rich, 0, 2, NO, (x, v) -> x.row(v, 0));
        bounds.ends("row of twenty", Stage::full, 0, 19, NO, (x, v) -> x.row(v, 2));
        bounds.ends("what of a row", Stage::rich, 0, 2, NO, (x, v) -> x.row(1, v));
        bounds.ends("what of the last row", Stage::full, 0, 2, NO, (x, v) -> x.row(19, v));
        bounds.refused("none such", Stage::fresh, NO, x -> x.row(0, 0));
        bounds.refused("none such, another what", Stage::rich, NO, x -> x.row(3, 3));
        // Three parts a row: none of these numbers may come round to another row.
        bounds.refused("row 0, what 3", Stage::rich, NO, x -> x.row(0, 3));
        bounds.refused("row 1, what -1", Stage::rich, NO, x -> x.row(1, -1));
        bounds.refused("a row that comes round", Stage::rich, NO, x -> x.row(1431655766, 0));
        bounds.asks("a row that is altered", Stage::rich, x -> x.row(1, 1), -5);
        FallCards x = from(9999);
        x.set(5, 63);
        x.prove(3);
        // side is 7, 14, 21
        int[][] want = {{0, 9998, 7}, {1, 9996, 7}, {3, 9993, 7}};
        for (int i = 0; i < 9; i++) {
            due.is("row " + i / 3 + ", what " + i % 3, x.row(i / 3, i % 3), want[i / 3][i % 3]);
        }
    }

    private static void alterNumbers() {
        due.says("It becomes v: what it was. NO likewise");
        bounds.ends("alterRow of three", Stage::rich, 0, 2, NO, (x, v) -> x.alterRow(v, 0, 9));
        bounds.ends("alterRow of twenty", Stage::full, 0, 19, NO, (x, v) -> x.alterRow(v, 2, 9));
        bounds.ends("what of alterRow", Stage::rich, 0, 2, NO, (x, v) -> x.alterRow(1, v, 9));
        bounds.ends("what of the last alterRow", Stage::full, 0, 2, NO, (x, v) -> x.alterRow(19, v, 9));
        bounds.refused("none such", Stage::fresh, NO, x -> x.alterRow(0, 0, 9));
        bounds.refused("none such, another what", Stage::rich, NO, x -> x.alterRow(3, 3, 9));
        bounds.refused("a row that comes round", Stage::rich, NO, x -> x.alterRow(1431655766, 0, 9));
    }

    private static void alterAnything() {
        due.says("It becomes v: what it was");
        for (int v : new int[] {0, -1, 9999, Integer.MAX_VALUE, Integer.MIN_VALUE, 256, 65536}) {
            for (int at = 0; at < 9; at++) {
                FallCards x = from(9999);
                x.prove(3);
                int was = x.row(at / 3, at % 3);
                due.is("alterRow", x.alterRow(at / 3, at % 3, v), was);
                for (int i = 0; i < 9; i++) {
                    int want = i == at ? v : i % 3 == 0 ? 0 : i % 3 == 2 ? 7 : 9999 - (i / 3 + 1) * (i / 3 + 2) / 2;
                    due.is("it alone", x.row(i / 3, i % 3), want);
                }
                due.is("what it was", x.alterRow(at / 3, at % 3, 3), v);
                due.is("the air stays", x.air(3), 9999);
            }
        }
    }

    private static void judgeState() {
        due.says("STATE: nothing is in THE AIR");
        bounds.refused("judge with rows", Stage::emptyAir, STATE, x -> x.judge());
        bounds.refused("judge without rows", Stage::fresh, STATE, x -> x.judge());
        due.is("rows are there", Stage.emptyAir().many(1), 4);
    }

    private static void judgeNone() {
        due.says("0 all is right (also if there are none)");
        due.is("none yet", from(50).judge(), 0);
        FallCards x = Stage.landed();
        x.prove(9);
        due.is("none of a landed one", x.judge(), 0);
        for (int n = 1; n <= 20; n++) {
            FallCards y = from(500);
            y.prove(n);
            due.is("all of " + n, y.judge(), 0);
        }
        bounds.asks("judge", Stage::rich, y -> y.judge(), 2);
    }

    private static void judgeFirst() {
        due.says("else the first ROW that isn't, and 1 more");
        for (int i = 0; i < 20; i++) {
            for (int what = 0; what < 3; what++) {
                for (int off : new int[] {1, -1, Integer.MIN_VALUE}) {
                    FallCards x = from(500);
                    x.prove(20);
                    x.alterRow(i, what, x.row(i, what) + off);
                    due.is("row " + i + ", what " + what, x.judge(), i + 1);
                    if (i > 0) {
                        x.alterRow(19, 2, 99);
                        due.is("the first of two", x.judge(), i + 1);
                        x.alterRow(i - 1, (what + 1) % 3, 77777);
                        due.is("the one ahead of it", x.judge(), i);
                    }
                }
            }
        }
        // A wrong row is no beginning for the next: that one must be as the way itself goes.
        FallCards x = from(500);
        x.prove(3);
        x.alterRow(0, 1, 400);
        x.alterRow(1, 1, 398);
        due.is("rows that follow from a wrong one", x.judge(), 1);
        x.alterRow(0, 1, 499);
        due.is("and one that doesn't", x.judge(), 2);
    }

    private static void judgeBehindLanding() {
        due.says("right is one that is as it must be: behind its landing there is none");
        for (int ticks = 1; ticks <= 19; ticks++) {
            FallCards x = from(500);
            x.prove(20);
            int height = ticks * (ticks + 1) / 2;
            x.letGo(0, height, 7, 0);
            for (int i = 0; i < 20; i++) {
                x.alterRow(i, 1, height - (i + 1) * (i + 2) / 2);
            }
            due.is("landed with tick " + ticks, x.judge(), ticks + 1);
            x.tick(400);
            due.is("has landed", x.judge(), 1);
        }
    }

    private static void judgeOfNow() {
        due.says("THE READER takes ROWS as those of it (what is in THE AIR, by the LAWS of then)");
        FallCards x = from(500);
        x.prove(2);
        x.tick(1);
        due.is("a tick later", x.judge(), 1);
        x.prove(2);
        due.is("proven anew", x.judge(), 0);
        x.gust(8, 0);
        due.is("behind a gust", x.judge(), 1);
        x.prove(2);
        x.set(5, 0);
        due.is("by another wind", x.judge(), 1);
        x.set(5, 32);
        due.is("by the wind again", x.judge(), 0);
        x.letGo(0, 499, 7, 0);
        due.is("of another letting go", x.judge(), 1);
        x.prove(2);
        x.letGo(0, 499, 7, 0);
        due.is("of the same letting go", x.judge(), 0);
    }

    private static void whatRowsOutlast() {
        due.says("There are no ROWS then (behind cards() alone)");
        FallCards x = from(500);
        x.prove(5);
        x.keep();
        x.tick(3);
        x.letGo(0, 9, 0, 0);
        x.again();
        x.card(3, 3, 3, 3);
        x.seed(4);
        due.is("they outlast what is done", x.many(1), 5);
        Due.read(x, "x");
        due.is("and a fault", x.many(1), 5);
        due.is("all is right", x.judge(), 0);
        x.cards();
        due.is("but not cards()", x.many(1), 0);
        x.again();
        due.is("nor do they come back", x.many(1), 0);
    }
}
