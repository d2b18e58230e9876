/** Promises 9 to 12: letGo, tick, air, gust; and the tick's law by hand. */
public final class AirTest {
    private static final Due due = new Due();

    public static void main(String[] args) {
        letGo();
        ticks();
        paces();
        turns();
        gusts();
        due.end("AirTest");
    }

    private static void all(String call, FallCards x, int... want) {
        for (int what = 0; what < want.length; what++) {
            due.is(call + ", air(" + what + ")", x.air(what), want[what]);
        }
    }

    private static void letGo() {
        FallCards x = Due.plain();
        x.card(0, 8, 1, 0);
        x.card(1, 9, 1, 0);
        int[][] bad = {{2, 1, 0, 0}, {-1, 1, 0, 0}, {0, 0, 0, 0}, {0, 10000, 0, 0}, {0, 1, -1, 0}, {0, 1, 36, 0}, {0, 1, 0, -10},
            {0, 1, 0, 10}};
        for (int[] b : bad) {
            due.is("letGo not as told", x.letGo(b[0], b[1], b[2], b[3]), -1);
        }
        due.is("nothing yet", x.air(8), FallCards.NO);
        due.is("first", x.letGo(1, 9999, 35, -9), -9);
        all("letGo", x, 1, 0, 0, 9999, 35, -9, 0, 0, 0);
        for (int[] b : bad) {
            due.is("letGo not as told", x.letGo(b[0], b[1], b[2], b[3]), -1);
        }
        all("behind refusals", x, 1, 0, 0, 9999, 35, -9, 0, 0, 0);
        due.is("second", x.letGo(0, 1, 0, 9), 1);
        all("letGo again", x, 0, 0, 0, 1, 0, 9, 0, 0, 0);
        due.is("it lands", x.tick(400), 1);
        due.is("a landed one is still there", x.letGo(1, 5, 5, 5), 0);
        all("not landed any more", x, 1, 0, 0, 5, 5, 5, 0, 0, 0);
        due.is("air(9)", x.air(9), FallCards.NO);
        due.is("air(-1)", x.air(-1), FallCards.NO);
    }

    private static void ticks() {
        FallCards x = Due.plain();
        due.is("BAD ahead of STATE", x.tick(401), -1);
        due.is("nothing in the air", x.tick(0), -4);
        x.card(0, 8, 1, 0);
        x.letGo(0, 6, 0, 0);
        due.is("tick -1", x.tick(-1), -1);
        due.is("tick 401", x.tick(401), -1);
        due.is("tick 0", x.tick(0), 0);
        all("none yet", x, 0, 0, 0, 6, 0, 0, 0, 0, 0);
        due.is("tick 1", x.tick(1), 1);
        all("one", x, 0, 1, 0, 5, 0, 0, 0, 8, 0);
        due.is("tick 1", x.tick(1), 1);
        all("two", x, 0, 2, 0, 3, 0, 0, 0, 16, 0);
        due.is("till it lands", x.tick(400), 1);
        all("three, at height 0", x, 0, 3, 0, 0, 0, 0, 0, 24, 1);
        due.is("behind landing", x.tick(7), 0);
        all("still", x, 0, 3, 0, 0, 0, 0, 0, 24, 1);
    }

    private static void paces() {
        FallCards x = new FallCards();
        x.card(0, 10, 3, 0);
        x.letGo(0, 500, 6, 0);
        x.tick(2);
        // side: (10 * 866 by 1000) * 16 by 32; down: 10 + 10 less 10 * (8 + 24 * 500 by 1000) by 64
        all("two of ten", x, 0, 2, 0, 497, 6, 0, 4, 17, 0);
        // side: 4 + (17 * 866 by 1000) * 16 by 32 less 4 * 8 by 64; down: 17 + 10 less 17 * 20 by 64
        x.tick(1);
        all("three of ten", x, 0, 3, 1, 495, 6, 0, 11, 22, 0);
        int[][] winds = {{63, 7, 0}, {0, -8, -1}, {29, 0, 0}, {28, -1, 0}, {36, 1, 0}, {35, 0, 0}};
        for (int[] w : winds) {
            FallCards y = Due.plain();
            y.set(5, w[0]);
            y.card(1, 1, 1, 0);
            y.letGo(0, 100, 20, 0);
            y.tick(1);
            due.is("wind " + w[0], y.air(6), w[1]);
            due.is("wind across " + w[0], y.air(2), w[2]);
        }
        FallCards y = Due.plain();
        y.card(5, 9, 1, 0);
        y.letGo(0, 100, 0, 0);
        y.tick(1);
        due.is("winged, 9 by 2", y.air(7), 4);
        y.tick(1);
        due.is("winged, 13 by 2", y.air(7), 6);
        FallCards up = new FallCards();
        up.card(1, 1, 1, 0);
        up.letGo(0, 100, 27, 0);
        up.gust(-99, -99);
        up.tick(1);
        // side: -99 + (-99 * -1000 by 1000) * 16 by 32 less -99 * 8 by 64; down: -99 + 1 less -99 * (8 + 0) by 64
        all("upwards", up, 0, 1, -4, 110, 27, 0, -38, -86, 0);
        FallCards edge = Due.plain();
        edge.set(2, 63);
        edge.card(1, 1, 1, 0);
        edge.letGo(0, 9999, 20, 0);
        edge.gust(0, 640);
        edge.tick(1);
        // cosine of 20 is less than 0: 640 * (63 * 940 by 1000) by 64
        due.is("edge without sign", edge.air(7), 640 + 1 - 590);
        FallCards fast = Due.plain();
        fast.set(0, 63);
        fast.card(1, 99, 1, 0);
        fast.letGo(0, 9999, 27, 0);
        for (int i = 0; i < 11; i++) {
            fast.gust(0, -999);
        }
        fast.tick(3);
        due.is("side is held", fast.air(6), 9999);
        due.is("down comes back", fast.air(7), -9999 + 297);
        fast.letGo(0, 9999, 9, 0);
        for (int i = 0; i < 11; i++) {
            fast.gust(-999, 999);
        }
        fast.set(0, 0);
        fast.tick(1);
        due.is("down is held", fast.air(7), 9999);
        due.is("side stays", fast.air(6), -9999);
        due.is("height less by down by 8", fast.air(3), 9999 - 1249);
        due.is("across cut towards 0", fast.air(2), -1249);
    }

    private static int turnBehind(FallCards x, int kind, int wide, int clip, int slant, int turn) {
        x.cards();
        x.card(kind, 1, wide, clip);
        x.letGo(0, 9999, slant, turn);
        x.tick(1);
        due.is("slant behind", x.air(4), Math.floorMod(slant + x.air(5), 36));
        return x.air(5);
    }

    private static void turns() {
        FallCards x = Due.plain();
        due.is("fall", turnBehind(x, 0, 1, 0, 5, 3), 3);
        due.is("fall clipped", turnBehind(x, 0, 1, 4, 35, 3), 7);
        due.is("fall clip by wide", turnBehind(x, 0, 3, -4, 0, 0), -1);
        due.is("fall clip cut", turnBehind(x, 0, 5, -4, 0, 0), 0);
        due.is("fall held", turnBehind(x, 0, 1, 4, 33, 8), 9);
        due.is("fall held below", turnBehind(x, 0, 1, -4, 2, -8), -9);
        due.is("steady", turnBehind(x, 1, 1, 4, 2, -8), 0);
        due.is("swinging at 9", turnBehind(x, 2, 1, 0, 9, 2), 2);
        due.is("swinging at 10", turnBehind(x, 2, 1, 0, 10, 2), -2);
        due.is("swinging at 26", turnBehind(x, 2, 1, 1, 26, 2), -3);
        due.is("swinging at 27", turnBehind(x, 2, 1, 1, 27, 2), 3);
        due.is("turning from 0", turnBehind(x, 3, 1, 0, 0, 0), 1);
        due.is("turning from -1", turnBehind(x, 3, 1, 0, 0, -1), -2);
        due.is("turning held", turnBehind(x, 3, 1, 4, 0, 8), 9);
        due.is("turning was below", turnBehind(x, 3, 1, 4, 0, -1), 2);
        due.is("turning held below", turnBehind(x, 3, 1, -4, 0, -6), -9);
        due.is("righted at 0", turnBehind(x, 4, 1, 4, 0, 5), 0);
        due.is("righted at 1", turnBehind(x, 4, 1, 4, 1, 5), -1);
        due.is("righted at 18", turnBehind(x, 4, 1, 4, 18, 5), -1);
        due.is("righted at 19", turnBehind(x, 4, 1, 4, 19, 5), 1);
        due.is("righted at 35", turnBehind(x, 4, 1, 4, 35, 5), 1);
        due.is("winged from 0", turnBehind(x, 5, 1, 0, 0, 0), 1);
        due.is("winged from -1", turnBehind(x, 5, 1, 0, 0, -1), -2);
        x.set(4, 63);
        due.is("damp 9", turnBehind(x, 0, 1, 0, 0, 9), 1);
        due.is("damp -9", turnBehind(x, 0, 1, 0, 0, -9), -1);
        due.is("damp 1 cut", turnBehind(x, 0, 1, 0, 0, 1), 1);
        x.set(4, 0);
        x.set(3, 63);
        int[][] spins = {{0, 500, 9}, {0, 100, 6}, {9, 500, 0}, {18, 100, -6}, {4, 100, 4}};
        for (int[] s : spins) {
            x.cards();
            x.card(0, 1, 1, 0);
            x.letGo(0, 9999, s[0], 0);
            x.gust(s[1], 0);
            x.tick(1);
            // (100 * 1000 by 1000) * 63 by 1024 is 6, (100 * 766 by 1000) * 63 by 1024 is 4
            due.is("spin at " + s[0] + " by " + s[1], x.air(5), s[2]);
        }
        x.cards();
        x.card(3, 1, 1, 0);
        x.letGo(0, 9999, 0, -1);
        x.gust(250, 0);
        x.tick(1);
        due.is("-1 and 15 less 1 is held only at the end", x.air(5), 9);
        x.cards();
        x.card(0, 1, 1, 0);
        // The pace that spins is the one behind this tick's wind.
        x.set(5, 63);
        x.letGo(0, 9999, 0, 0);
        x.gust(10, 0);
        x.tick(1);
        due.is("17 * 63 by 1024", x.air(5), 1);
    }

    private static void gusts() {
        FallCards x = Due.plain();
        due.is("BAD ahead of STATE", x.gust(1000, 0), -1);
        due.is("nothing in the air", x.gust(0, 0), -4);
        x.card(0, 8, 1, 0);
        x.letGo(0, 200, 0, 0);
        int[][] bad = {{1000, 0}, {-1000, 0}, {0, 1000}, {0, -1000}};
        for (int[] b : bad) {
            due.is("gust not as told", x.gust(b[0], b[1]), -1);
        }
        due.is("gust", x.gust(999, -999), 1);
        all("gust", x, 0, 0, 0, 200, 0, 0, 999, -999, 0);
        for (int i = 0; i < 10; i++) {
            x.gust(999, -999);
        }
        all("held", x, 0, 0, 0, 200, 0, 0, 9999, -9999, 0);
        x.gust(-999, 999);
        all("from what is held", x, 0, 0, 0, 200, 0, 0, 9000, -9000, 0);
        x.letGo(0, 1, 0, 0);
        x.tick(1);
        due.is("landed", x.gust(0, 0), -4);
        due.is("landed, BAD first", x.gust(0, 1000), -1);
    }
}
