/** The bounds that 'Terms' 2 names of a tick, and promises 9 to 12, sentence by sentence. */
public final class AirBoundsTest {
    private static final Due due = new Due();
    private static final Bounds bounds = new Bounds(due);
    private static final int BAD = -1, STATE = -4, NO = Integer.MIN_VALUE;
    private static final int TURN = 5, SIDE = 6, DOWN = 7;

    public static void main(String[] args) {
        letGoNumbers();
        letGoBegins();
        whatWasThere();
        tickNumbers();
        tickTillLanded();
        landing();
        airNumbers();
        gustNumbers();
        gustState();
        pacesHeld();
        quotientsCut();
        divisors();
        cosineWithoutSign();
        wingedHalved();
        paceAhead();
        turnHeld();
        kindsOfTurn();
        slantGoesRound();
        beyondFourHundred();
        due.end("AirBoundsTest");
    }

    private static void letGoNumbers() {
        due.says("a CARD from a HEIGHT (1 to 9999), at a SLANT (0 to 35), with a TURN (-9 to 9). BAD");
        bounds.ends("letGo of three", Stage::rich, 0, 2, BAD, (x, v) -> x.letGo(v, 50, 5, 0));
        bounds.ends("letGo of six", Stage::full, 0, 5, BAD, (x, v) -> x.letGo(v, 50, 5, 0));
        bounds.ends("letGo from a height", Stage::rich, 1, 9999, BAD, (x, v) -> x.letGo(0, v, 5, 0));
        bounds.ends("letGo at a slant", Stage::rich, 0, 35, BAD, (x, v) -> x.letGo(0, 50, v, 0));
        bounds.ends("letGo with a turn", Stage::rich, -9, 9, BAD, (x, v) -> x.letGo(0, 50, 5, v));
        bounds.refused("letGo of no card", Stage::fresh, BAD, x -> x.letGo(0, 50, 5, 0));
        bounds.refused("letGo, BAD ahead of -9", Stage::emptyAir, BAD, x -> x.letGo(2, 50, 5, 0));
        bounds.refused("all not as told", Stage::rich, BAD, x -> x.letGo(3, 0, 36, 10));
    }

    private static String air(FallCards x) {
        StringBuilder b = new StringBuilder();
        for (int what = 0; what < 9; what++) {
            b.append(what == 0 ? "" : " ").append(x.air(what));
        }
        return b.toString();
    }

    private static void letGoBegins() {
        due.says("it is in THE AIR at ACROSS 0, with paces SIDE 0, DOWN 0, TICK 0");
        int[][] starts = {{0, 1, 0, -9}, {2, 9999, 35, 9}, {1, 5000, 18, 0}};
        for (int[] s : starts) {
            for (FallCards x : new FallCards[] {Stage.rich(), Stage.landed()}) {
                x.letGo(s[0], s[1], s[2], s[3]);
                due.same("let go", air(x), s[0] + " 0 0 " + s[1] + " " + s[2] + " " + s[3] + " 0 0 0");
            }
        }
    }

    private static void whatWasThere() {
        due.says("what was in THE AIR ahead of it (-9: nothing)");
        FallCards x = Stage.full();
        x.cards();
        due.is("no card there", x.letGo(0, 9, 0, 0), BAD);
        for (int i = 0; i < 6; i++) {
            x.card(0, 9, 1, 0);
        }
        due.is("nothing", x.letGo(5, 9, 0, 0), -9);
        for (int i = 0; i < 6; i++) {
            due.is("the card ahead", x.letGo(i, 9, 0, 0), i == 0 ? 5 : i - 1);
        }
        x.tick(400);
        due.is("one that has landed", x.letGo(2, 9, 0, 0), 5);
        due.is("the same one", x.letGo(2, 9, 0, 0), 2);
        x.cards();
        x.card(0, 9, 1, 0);
        due.is("nothing behind cards()", x.letGo(0, 9, 0, 0), -9);
    }

    private static void tickNumbers() {
        due.says("n TICKS (0 to 400): how many. BAD; STATE: nothing is in THE AIR");
        bounds.ends("tick", Stage::rich, 0, 400, BAD, (x, v) -> x.tick(v));
        bounds.ends("BAD ahead of STATE", Stage::emptyAir, 0, 400, BAD, (x, v) -> x.tick(v));
        bounds.ends("BAD of a landed one", Stage::landed, 0, 400, BAD, (x, v) -> x.tick(v));
        for (int n : new int[] {0, 1, 399, 400}) {
            bounds.refused("STATE of " + n, Stage::emptyAir, STATE, x -> x.tick(n));
            bounds.refused("STATE of a new object, " + n, Stage::fresh, STATE, x -> x.tick(n));
            bounds.asks("a landed one, " + n, Stage::landed, x -> x.tick(n), 0);
        }
        bounds.asks("no tick at all", Stage::rich, x -> x.tick(0), 0);
        FallCards x = Due.plain();
        x.card(1, 1, 1, 0);
        x.letGo(0, 9999, 0, 0);
        due.is("400", x.tick(400), 400);
        due.is("400 ticks", x.air(1), 400);
        due.is("1 more", x.tick(1), 1);
        due.is("401 ticks", x.air(1), 401);
    }

    private static void tickTillLanded() {
        due.says("or till it has LANDED: how many");
        for (int n = 1; n <= 140; n++) {
            FallCards x = Stage.plainSteady();
            x.letGo(0, Math.min(9999, n * (n + 1) / 2), 0, 0);
            due.is("all but one", x.tick(n - 1), n - 1);
            due.is("not landed", x.air(8), 0);
            due.is("the last one", x.tick(400), 1);
            due.is("landed", x.air(8), 1);
            due.is("ticks", x.air(1), n);
            String there = air(x);
            due.is("none more", x.tick(400), 0);
            due.same("it lies", air(x), there);
        }
    }

    private static void landing() {
        due.says("It has LANDED, if HEIGHT is 0 or less");
        for (int height = 1; height <= 3; height++) {
            FallCards x = Due.plain();
            x.card(1, 16, 1, 0);
            x.letGo(0, height, 0, 0);
            x.tick(1);
            due.is("height behind a tick of 2", x.air(3), height - 2);
            due.is("landed from " + height, x.air(8), height > 2 ? 0 : 1);
            due.is("as a fall", x.fall(0, height, 0, 0, 0), height > 2 ? 2 : 1);
        }
    }

    private static void airNumbers() {
        due.says("what = 0 CARD .. 8 LANDED. NO: what; nothing is in THE AIR");
        bounds.ends("air", Stage::rich, 0, 8, NO, (x, v) -> x.air(v));
        bounds.ends("air of a landed one", Stage::landed, 0, 8, NO, (x, v) -> x.air(v));
        for (int what = -1; what <= 9; what++) {
            int w = what;
            bounds.refused("air of nothing, " + what, Stage::emptyAir, NO, x -> x.air(w));
            bounds.refused("air of a new object, " + what, Stage::fresh, NO, x -> x.air(w));
        }
        due.says("(some may be below 0)");
        FallCards x = Due.plain();
        x.card(0, 8, 1, -4);
        x.set(5, 0);
        x.letGo(0, 2, 0, -3);
        x.gust(-8, 16);
        x.tick(400);
        // side -8 less 8, down 16 and 8, turn -3 less 4
        due.same("below 0", air(x), "0 1 -2 -1 29 -7 -16 24 1");
    }

    private static void gustNumbers() {
        due.says("SIDE and DOWN (-999 to 999 each) are so much more: 1. BAD");
        bounds.ends("gust aside", Stage::rich, -999, 999, BAD, (x, v) -> x.gust(v, 0));
        bounds.ends("gust down", Stage::rich, -999, 999, BAD, (x, v) -> x.gust(0, v));
        int[][] gusts = {{-999, 999}, {999, -999}, {0, 0}, {1, -1}};
        for (int[] g : gusts) {
            FallCards x = Stage.rich();
            int side = x.air(SIDE);
            int down = x.air(DOWN);
            due.is("gust", x.gust(g[0], g[1]), 1);
            due.is("side", x.air(SIDE), side + g[0]);
            due.is("down", x.air(DOWN), down + g[1]);
            due.is("no tick", x.air(1), 4);
        }
    }

    private static void gustState() {
        due.says("STATE: nothing is, or it has LANDED");
        int[][] gusts = {{0, 0}, {999, 999}, {-999, -999}};
        for (int[] g : gusts) {
            bounds.refused("gust of nothing", Stage::emptyAir, STATE, x -> x.gust(g[0], g[1]));
            bounds.refused("gust of a new object", Stage::fresh, STATE, x -> x.gust(g[0], g[1]));
            bounds.refused("gust of a landed one", Stage::landed, STATE, x -> x.gust(g[0], g[1]));
        }
        int[][] bad = {{1000, 0}, {-1000, 0}, {0, 1000}, {0, -1000}, {1000, 1000}};
        for (int[] g : bad) {
            bounds.refused("BAD ahead of STATE", Stage::emptyAir, BAD, x -> x.gust(g[0], g[1]));
            bounds.refused("BAD ahead of STATE, landed", Stage::landed, BAD, x -> x.gust(g[0], g[1]));
        }
    }

    /** Blown till just this pace stands. */
    private static FallCards blown(FallCards x, int side, int down) {
        int leftSide = side;
        int leftDown = down;
        while (leftSide != 0 || leftDown != 0) {
            int s = Math.max(-999, Math.min(999, leftSide));
            int d = Math.max(-999, Math.min(999, leftDown));
            x.gust(s, d);
            leftSide -= s;
            leftDown -= d;
        }
        return x;
    }

    private static FallCards steady(int weight, int slant) {
        FallCards x = Due.plain();
        x.card(1, weight, 1, 0);
        x.letGo(0, 9999, slant, 0);
        return x;
    }

    private static void pacesHeld() {
        due.says("SIDE and DOWN are held to -9999 to 9999; of gusts: held as in a TICK");
        for (int way = -1; way <= 1; way += 2) {
            FallCards x = blown(steady(1, 0), 9998 * way, 0);
            due.is("9998", x.air(SIDE), 9998 * way);
            x.gust(way, 0);
            due.is("9999", x.air(SIDE), 9999 * way);
            x.gust(way, 0);
            due.is("held", x.air(SIDE), 9999 * way);
            x.gust(999 * way, 0);
            due.is("held still", x.air(SIDE), 9999 * way);
            FallCards y = blown(steady(1, 0), 0, 9998 * way);
            y.gust(0, way);
            due.is("9999 down", y.air(DOWN), 9999 * way);
            y.gust(0, way);
            due.is("held down", y.air(DOWN), 9999 * way);
            // By 4 the wind of 36 is 1 more, that of 28 is 1 less.
            for (int from = 9996; from <= 9999; from++) {
                FallCards w = blown(steady(1, 0), from * way, 0);
                w.set(5, 32 + 8 * way);
                w.tick(1);
                due.is("a tick that blows 2 from " + from, w.air(SIDE), Math.min(9999, from + 2) * way);
            }
        }
        for (int from = 9995; from <= 9999; from++) {
            FallCards w = blown(steady(3, 0), 0, from);
            w.tick(1);
            due.is("a tick of weight 3 from " + from, w.air(DOWN), Math.min(9999, from + 3));
        }
        // Lift throws far past what is held: 9999 * 63 by 32.
        FallCards far = blown(steady(1, 27), 0, 9990);
        far.set(0, 63);
        far.tick(1);
        due.is("thrown past -9999", far.air(SIDE), -9999);
        due.is("across by what is held", far.air(2), -1249);
        FallCards up = blown(steady(1, 9), 0, -9999);
        up.set(1, 63);
        up.set(2, 63);
        up.tick(1);
        due.is("down is braked from -9999", up.air(DOWN), -9999 + 1 + 9999 * 63 / 64);
        // With cosine 1000 the brake is 126 by 64: down swings past itself.
        FallCards back = blown(steady(99, 0), 0, -9999);
        back.set(1, 63);
        back.set(2, 63);
        back.tick(1);
        due.is("down swings back", back.air(DOWN), -9999 + 99 + 9999 * 126 / 64);
    }

    private static void quotientsCut() {
        due.says("Products first, each quotient cut (towards 0)");
        for (int way = -1; way <= 1; way += 2) {
            // (7 * 866 by 1000) is 6; 6 * 31 by 32 is 5.
            FallCards x = blown(steady(1, 6), 0, 7 * way);
            x.set(0, 31);
            x.tick(1);
            due.is("lift", x.air(SIDE), 5 * way);
            // 1 * 174 by 1000 is 0, 5 * 174 by 1000 is 0, 6 * 174 is 1.
            FallCards y = blown(steady(1, 1), 0, 5 * way);
            y.set(0, 32);
            y.tick(1);
            due.is("870 by 1000", y.air(SIDE), 0);
            FallCards y6 = blown(steady(1, 1), 0, 6 * way);
            y6.set(0, 32);
            y6.tick(1);
            due.is("1044 by 1000", y6.air(SIDE), way);
            // 12 * 5 by 64 is 0, 13 * 5 by 64 is 1.
            for (int side = 12; side <= 13; side++) {
                FallCards d = blown(steady(1, 0), side * way, 0);
                d.set(1, 5);
                d.tick(1);
                due.is("drag of " + side, d.air(SIDE), (side - side * 5 / 64) * way);
                FallCards e = blown(steady(1, 9), 0, side * way);
                e.set(1, 5);
                e.tick(1);
                due.is("drag down of " + side, e.air(DOWN), (side - side * 5 / 64) * way + 1);
            }
            // Across and height go by pace by 8, cut.
            for (int pace : new int[] {7, 8, 15, 16}) {
                FallCards a = blown(steady(1, 0), pace * way, 0);
                a.tick(1);
                due.is("across by " + pace, a.air(2), pace / 8 * way);
                FallCards h = blown(steady(1, 0), 0, pace * way - 1);
                h.tick(1);
                due.is("height by " + pace, h.air(3), 9999 - pace / 8 * way);
            }
        }
        // 3 * 63 by 1024 is 0; a push of 17 is 1: side times cosine by 1000 comes first.
        for (int side : new int[] {16, 17, -16, -17}) {
            FallCards x = Due.plain();
            x.set(3, 63);
            x.card(0, 1, 1, 0);
            x.letGo(0, 9999, 0, 0);
            x.gust(side, 0);
            x.tick(1);
            due.is("spin by " + side, x.air(TURN), side * 63 / 1024);
        }
        for (int turn = -9; turn <= 9; turn++) {
            FallCards x = Due.plain();
            x.set(4, 20);
            x.card(0, 1, 1, 0);
            x.letGo(0, 9999, 0, turn);
            x.tick(1);
            due.is("damp of " + turn, x.air(TURN), turn - turn * 20 / 64);
        }
        for (int clip = -4; clip <= 4; clip++) {
            for (int wide = 1; wide <= 9; wide++) {
                FallCards x = Due.plain();
                x.card(0, 1, wide, clip);
                x.letGo(0, 9999, 0, 0);
                x.tick(1);
                int size = Math.abs(clip) / wide;
                due.is("clip " + clip + " by wide " + wide, x.air(TURN), clip < 0 ? -size : size);
            }
        }
    }

    /** Products that lie just at or just below a whole quotient, so that a divisor 1 off would tell another number. */
    private static void divisors() {
        due.says("by 1000, by 32, by 64, by 4, by 1024, by 8");
        for (int way = -1; way <= 1; way += 2) {
            FallCards lift = blown(steady(1, 9), 0, 5000 * way);
            lift.set(0, 32);
            lift.tick(1);
            due.is("5000 * 1000 by 1000, * 32 by 32", lift.air(SIDE), 5000 * way);
            FallCards drag = blown(steady(1, 9), 6400 * way, 6400 * way);
            drag.set(1, 63);
            drag.tick(1);
            due.is("6400 less 6400 * 63 by 64", drag.air(SIDE), 100 * way);
            due.is("down likewise, and 1", drag.air(DOWN), 100 * way + 1);
            FallCards pace = blown(steady(8, 0), 9999 * way, 9991 * way);
            pace.tick(1);
            due.is("9999 by 8", pace.air(2), 1249 * way);
            due.is("9991 and 8 by 8", pace.air(3), 9999 - (9991 * way + 8) / 8);
        }
        // Slant, edge and edge times cosine by 1000: the product lacks so little that by 999 it would be 1 more.
        int[][] edges = {{3, 15, 12}, {3, 60, 51}, {4, 30, 22}, {4, 60, 45}, {7, 38, 12}};
        for (int[] e : edges) {
            FallCards x = blown(steady(1, e[0]), 0, 6400);
            x.set(2, e[1]);
            x.tick(1);
            due.is("edge " + e[1] + " at " + e[0], x.air(DOWN), 6401 - 100 * e[2]);
        }
        // Slant, side, spin and the turn: as near, by 1000 and by 1024.
        int[][] spins = {{1, 67, 63, 3}, {3, 60, 40, 1}, {4, 107, 63, 4}, {5, 129, 62, 4}, {7, 301, 40, 3}, {0, 31, 33, 0}, {0, 62, 33, 1},
            {0, 66, 62, 3}, {0, 128, 8, 1}, {0, 128, 16, 2}};
        for (int[] p : spins) {
            FallCards x = Due.plain();
            x.set(3, p[2]);
            x.card(0, 1, 1, 0);
            x.letGo(0, 9999, p[0], 0);
            x.gust(p[1], 0);
            x.tick(1);
            due.is("side " + p[1] + " at " + p[0] + " by spin " + p[2], x.air(TURN), p[3]);
        }
        for (int damp = 0; damp < 64; damp++) {
            for (int turn = 1; turn <= 9; turn++) {
                int left = turn;
                while ((turn - left + 1) * 64 <= turn * damp) {
                    left--;
                }
                due.is("damp " + damp + " of " + turn, damped(damp, turn), left);
                due.is("damp " + damp + " of -" + turn, damped(damp, -turn), -left);
            }
        }
    }

    private static int damped(int damp, int turn) {
        FallCards x = Due.plain();
        x.set(4, damp);
        x.card(0, 1, 1, 0);
        x.letGo(0, 9999, 0, turn);
        x.tick(1);
        return x.air(TURN);
    }

    private static void cosineWithoutSign() {
        due.says("DOWN less DOWN times (DRAG and EDGE times COSINE without sign by 1000) by 64; COSINE: SINE of (a and 9) modulo 36");
        int[] cosines = {1000, 985, 940, 866, 766, 643, 500, 342, 174, 0, 174, 342, 500, 643, 766, 866, 940, 985, 1000, 985, 940, 866,
            766, 643, 500, 342, 174, 0, 174, 342, 500, 643, 766, 866, 940, 985};
        for (int slant = 0; slant < 36; slant++) {
            FallCards x = blown(steady(1, slant), 0, 640);
            x.set(1, 2);
            x.set(2, 50);
            x.tick(1);
            due.is("brake at " + slant, x.air(DOWN), 641 - 10 * (2 + 50 * cosines[slant] / 1000));
            // As for a turn the cosine has its sign: below 0 of 10 to 26.
            FallCards t = Due.plain();
            t.set(3, 32);
            t.card(0, 1, 1, 0);
            t.letGo(0, 9999, slant, 0);
            t.gust(256, 0);
            t.tick(1);
            int push = 256 * cosines[slant] / 1000 * 32 / 1024;
            due.is("turn at " + slant, t.air(TURN), slant >= 10 && slant <= 26 ? -push : push);
        }
    }

    private static void wingedHalved() {
        due.says("of a winged one it is halved then (by 2)");
        for (int down = -3; down <= 3; down++) {
            FallCards x = Due.plain();
            x.card(5, 2, 1, 0);
            x.letGo(0, 9999, 0, 0);
            x.gust(0, down);
            x.tick(1);
            due.is("(" + down + " and 2) by 2", x.air(DOWN), (down + 2) / 2);
        }
        for (int kind = 0; kind < 6; kind++) {
            FallCards x = Due.plain();
            x.card(kind, 50, 1, 0);
            x.letGo(0, 9999, 0, 0);
            x.tick(1);
            due.is("kind " + kind, x.air(DOWN), kind == 5 ? 25 : 50);
        }
        // First halved, then held: 9999 and 99 halved are not 9999 halved.
        FallCards x = Due.plain();
        x.card(5, 99, 1, 0);
        x.letGo(0, 9999, 0, 0);
        blown(x, 0, 9999);
        x.tick(1);
        due.is("halved, then held", x.air(DOWN), (9999 + 99) / 2);
    }

    private static void paceAhead() {
        due.says("SIDE as ahead of it; DOWN (as ahead)");
        FallCards x = blown(steady(64, 9), 64, 64);
        x.set(0, 32);
        x.set(1, 16);
        x.set(5, 36);
        x.tick(1);
        due.is("64 and 64 less 16 and 1", x.air(SIDE), 64 + 64 - 16 + 1);
        due.is("64 and 64 less 16", x.air(DOWN), 64 + 64 - 16);
        due.says("ACROSS is more by SIDE by 8; HEIGHT is less by DOWN by 8 (as they are then)");
        due.is("113 by 8", x.air(2), 14);
        due.is("112 by 8", x.air(3), 9999 - 14);
    }

    private static int turned(int kind, int wide, int clip, int slant, int turn) {
        FallCards x = Due.plain();
        x.card(kind, 1, wide, clip);
        x.letGo(0, 9999, slant, turn);
        x.tick(1);
        due.is("slant behind", x.air(4), (slant + x.air(TURN) + 36) % 36);
        return x.air(TURN);
    }

    private static void turnHeld() {
        due.says("TURN becomes what the KIND tells, held to -9 to 9");
        for (int turn = -9; turn <= 9; turn++) {
            for (int clip = -4; clip <= 4; clip++) {
                int told = turn + clip;
                due.is("fall, " + turn + " and " + clip, turned(0, 1, clip, 5, turn), Math.max(-9, Math.min(9, told)));
                due.is("swinging at 9, " + turn + " and " + clip, turned(2, 1, clip, 9, turn), Math.max(-9, Math.min(9, told)));
                due.is("swinging at 10, " + turn + " and " + clip, turned(2, 1, clip, 10, turn), Math.max(-9, Math.min(9, -told)));
                int more = told + (turn >= 0 ? 1 : -1);
                due.is("turning, " + turn + " and " + clip, turned(3, 1, clip, 5, turn), Math.max(-9, Math.min(9, more)));
                due.is("winged, " + turn + " and " + clip, turned(5, 1, clip, 5, turn), Math.max(-9, Math.min(9, more)));
            }
        }
    }

    private static void kindsOfTurn() {
        due.says("swinging: its other way, if SLANT is 10 to 26; righted: 0 if SLANT is 0; -1 if it is 1 to 18; else 1; steady: 0");
        for (int slant = 0; slant < 36; slant++) {
            due.is("fall at " + slant, turned(0, 1, 2, slant, 3), 5);
            due.is("steady at " + slant, turned(1, 1, 4, slant, 9), 0);
            due.is("swinging at " + slant, turned(2, 1, 2, slant, 3), slant >= 10 && slant <= 26 ? -5 : 5);
            due.is("turning at " + slant, turned(3, 1, 2, slant, 3), 6);
            due.is("righted at " + slant, turned(4, 1, 4, slant, 9), slant == 0 ? 0 : slant <= 18 ? -1 : 1);
            due.is("winged at " + slant, turned(5, 1, 2, slant, 3), 6);
        }
        due.says("turning: 1 more if TURN was 0 or more, else 1 less");
        for (int kind = 3; kind <= 5; kind += 2) {
            due.is("was -1", turned(kind, 1, 0, 0, -1), -2);
            due.is("was 0", turned(kind, 1, 0, 0, 0), 1);
            due.is("was 1", turned(kind, 1, 0, 0, 1), 2);
            due.is("was -1, is above 0", turned(kind, 1, 4, 0, -1), 2);
            due.is("was 0, is below 0", turned(kind, 1, -4, 0, 0), -3);
        }
    }

    private static void slantGoesRound() {
        due.says("SLANT is more by TURN, modulo 36 (0 to 35)");
        for (int slant = 0; slant < 36; slant++) {
            for (int turn = -9; turn <= 9; turn++) {
                FallCards x = Due.plain();
                x.card(0, 1, 1, 0);
                x.letGo(0, 9999, slant, turn);
                x.tick(1);
                int sum = slant + turn;
                due.is(slant + " and " + turn, x.air(4), sum < 0 ? sum + 36 : sum > 35 ? sum - 36 : sum);
            }
        }
    }

    private static void beyondFourHundred() {
        due.says("n TICKS (0 to 400): what is in THE AIR goes on, call by call");
        FallCards x = Due.plain();
        x.card(1, 1, 1, 0);
        x.set(1, 63);
        x.letGo(0, 9999, 9, 0);
        // Braked so that down stays below 8: it never comes lower.
        for (int i = 1; i <= 100; i++) {
            due.is("400 more", x.tick(400), 400);
            due.is("ticks", x.air(1), 400 * i);
        }
        x.set(5, 63);
        x.set(1, 0);
        x.gust(0, -999);
        due.is("ticks that rise", x.tick(100), 100);
        due.is("higher than any letting go", x.air(3) > 9999 ? 1 : 0, 1);
    }
}
