import java.lang.reflect.Method;
import java.util.ArrayList;
import java.util.List;
import java.util.Map;
import java.util.Random;
import java.util.TreeMap;

/** Runs of calls of all sorts, on an object and on its twin: each answer of the one is due from the other. */
public final class TwinTest {
    private static final Due due = new Due();
    private static final int RUNS = 800;
    private static final int CALLS = 300;
    /** An object is good for no more. */
    private static final int MOST_CALLS = 512;
    private static final int[] CARD = {0, 5}, HEIGHT = {1, 900}, SLANT = {0, 35}, TURN = {-9, 9}, NUMBER = {-99, 99}, FOUR = {0, 3};
    /** Of each call what its numbers mostly are; where a bound is far off, edge() goes there. */
    private static final Map<String, int[][]> NUMBERS = new TreeMap<>();
    private static final String[] PIECES = {"fall ", "steady ", "swinging ", "turning ", "righted ", "winged ", "wide ", "clip ", "- ",
        ";", "hand ", "lift ", "drag ", "edge ", "spin ", "damp ", "wind ", "0 ", "1 ", "4 ", "9 ", "63 ", "99 ", "100 ", "A", "\t"};
    private static final String[] KINDS = {"fall", "steady", "swinging", "turning", "righted", "winged"};
    private static final String[] LAWS = {"lift", "drag", "edge", "spin", "damp", "wind"};

    static {
        NUMBERS.put("card", new int[][] {{0, 5}, {1, 12}, {1, 9}, {-4, 4}});
        NUMBERS.put("cardOf", new int[][] {CARD, FOUR});
        NUMBERS.put("set", new int[][] {{0, 5}, {0, 63}});
        NUMBERS.put("hand", new int[][] {{0, 4}, {0, 9}});
        NUMBERS.put("sine", new int[][] {SLANT});
        NUMBERS.put("letGo", new int[][] {CARD, HEIGHT, SLANT, TURN});
        NUMBERS.put("tick", new int[][] {{0, 30}});
        NUMBERS.put("air", new int[][] {{0, 8}});
        NUMBERS.put("gust", new int[][] {{-999, 999}, {-999, 999}});
        NUMBERS.put("fall", new int[][] {CARD, HEIGHT, SLANT, TURN, {0, 5}});
        NUMBERS.put("line", new int[][] {CARD, HEIGHT, SLANT, TURN, FOUR});
        NUMBERS.put("parted", new int[][] {CARD, HEIGHT, SLANT, TURN, {0, 60}});
        NUMBERS.put("odds", new int[][] {CARD, HEIGHT, SLANT, TURN, {-4, 4}, {0, 1}});
        NUMBERS.put("aim", new int[][] {CARD, HEIGHT, TURN, {-4, 4}});
        NUMBERS.put("longest", new int[][] {HEIGHT, SLANT, TURN});
        NUMBERS.put("fit", new int[][] {CARD, HEIGHT, SLANT, TURN, FOUR, {0, 5}});
        NUMBERS.put("miss", new int[][] {CARD, HEIGHT, SLANT, TURN, FOUR});
        NUMBERS.put("toss", new int[][] {CARD, HEIGHT, SLANT, TURN});
        NUMBERS.put("seed", new int[][] {NUMBER});
        NUMBERS.put("prove", new int[][] {{1, 20}});
        NUMBERS.put("row", new int[][] {{0, 19}, {0, 2}});
        NUMBERS.put("alterRow", new int[][] {{0, 19}, {0, 2}, NUMBER});
        NUMBERS.put("judge", new int[][] {});
        NUMBERS.put("sheet", new int[][] {FOUR, {-1, 3}, {0, 40}});
        NUMBERS.put("put", new int[][] {FOUR, {0, 12}, {-99999, 99999}});
        NUMBERS.put("item", new int[][] {FOUR, FOUR, {0, 12}});
        NUMBERS.put("shelf", new int[][] {FOUR, {0, 2}, {0, 4}});
        NUMBERS.put("taken", new int[][] {FOUR, {0, 13}});
        NUMBERS.put("act", new int[][] {FOUR, FOUR, NUMBER});
        NUMBERS.put("trace", new int[][] {{0, 6}});
        NUMBERS.put("many", new int[][] {{0, 4}});
        NUMBERS.put("keep", new int[][] {});
        NUMBERS.put("again", new int[][] {});
    }

    private final Map<String, Method> calls = new TreeMap<>();
    private final Map<String, Method> twins = new TreeMap<>();
    private final List<String> names = new ArrayList<>(NUMBERS.keySet());
    private final Map<String, Integer> taken = new TreeMap<>();
    private Random random;
    private FallCards x;
    private Twin twin;
    private List<String> said;
    private boolean strayed;

    public static void main(String[] args) throws ReflectiveOperationException {
        new TwinTest().all();
        due.end("TwinTest");
    }

    private void all() throws ReflectiveOperationException {
        for (Method m : FallCards.class.getDeclaredMethods()) {
            if ((m.getModifiers() & java.lang.reflect.Modifier.PUBLIC) != 0) {
                calls.put(m.getName(), m);
                twins.put(m.getName(), Twin.class.getDeclaredMethod(m.getName(), m.getParameterTypes()));
            }
        }
        due.is("calls of the face, but for feed and cards", calls.size() - 2, NUMBERS.size());
        // Left to chance alone, shelves would mostly be bare and traces empty.
        names.addAll(List.of("shelf", "shelf", "act", "act", "trace", "taken", "sheet", "letGo", "card"));
        for (int run = 0; run < RUNS && !strayed; run++) {
            run(run);
        }
        for (String name : calls.keySet()) {
            due.is(name + " was taken often", taken.getOrDefault(name, 0) >= 300 ? 1 : 0, 1);
        }
    }

    private void run(int run) throws ReflectiveOperationException {
        random = new Random(run);
        x = new FallCards();
        twin = new Twin();
        said = new ArrayList<>();
        for (int i = random.nextInt(7); i > 0; i--) {
            numbers("card", 0);
        }
        for (int i = 0; i < CALLS && !strayed; i++) {
            if (random.nextInt(60) == 0) {
                text();
            } else {
                numbers(names.get(random.nextInt(names.size())), 20);
            }
        }
    }

    /** One number in so many is an edge's; 0: none is. */
    private void numbers(String name, int oneIn) throws ReflectiveOperationException {
        int[][] bounds = NUMBERS.get(name);
        Object[] told = new Object[bounds.length];
        for (int i = 0; i < told.length; i++) {
            int low = bounds[i][0];
            int high = bounds[i][1];
            told[i] = oneIn > 0 && random.nextInt(oneIn) == 0 ? edge(low, high) : low + random.nextInt(high - low + 1);
        }
        say(name, told);
    }

    private int edge(int low, int high) {
        int[] edges = {low - 1, high + 1, low, high, Integer.MIN_VALUE, Integer.MAX_VALUE, 0, 9999, 10000, 400, 401, 999, -999, 1000,
            -1000, random.nextInt(), random.nextInt(10000)};
        return edges[random.nextInt(edges.length)];
    }

    private void text() throws ReflectiveOperationException {
        String text = random.nextInt(3) == 0 ? anyText() : goodText();
        for (int at = 0; at < text.length() && !strayed;) {
            int n = Math.min(1 + random.nextInt(8), text.length() - at);
            n = random.nextInt(4) > 0 ? Math.min(8, text.length() - at) : n;
            long eight = random.nextLong();
            for (int i = n - 1; i >= 0; i--) {
                eight = eight << 8 | text.charAt(at + i);
            }
            say("feed", eight, n);
            at += n;
        }
        say("feed", random.nextLong(), random.nextBoolean() ? 0 : 9);
        say("cards");
    }

    private String anyText() {
        StringBuilder b = new StringBuilder(random.nextBoolean() ? goodText() : "");
        for (int i = random.nextInt(6); i > 0; i--) {
            b.append(PIECES[random.nextInt(PIECES.length)]);
        }
        return b.toString();
    }

    private String goodText() {
        StringBuilder b = new StringBuilder();
        for (int i = 1 + random.nextInt(5); i > 0; i--) {
            b.append(KINDS[random.nextInt(6)]).append(' ').append(1 + random.nextInt(99)).append(" wide ").append(1 + random.nextInt(9));
            if (random.nextBoolean()) {
                b.append(" clip ").append(random.nextInt(9) - 4);
            }
            b.append(random.nextBoolean() ? ";" : " ; ");
        }
        if (random.nextBoolean()) {
            b.append(LAWS[random.nextInt(6)]).append(' ').append(random.nextInt(64)).append(';');
        }
        if (random.nextInt(3) == 0) {
            b.append("hand 1 0 ").append(random.nextInt(10)).append(" 0 ").append(random.nextInt(10)).append(";");
        }
        return b.toString();
    }

    private void say(String name, Object... told) throws ReflectiveOperationException {
        if (said.size() >= MOST_CALLS) {
            return;
        }
        int got = (Integer) calls.get(name).invoke(x, told);
        int want = (Integer) twins.get(name).invoke(twin, told);
        said.add(name + java.util.Arrays.toString(told) + " " + got);
        if (got >= 0) {
            taken.merge(name, 1, Integer::sum);
        }
        due.is(name + java.util.Arrays.toString(told) + " behind " + (said.size() - 1) + " calls", got, want);
        // Behind one wrong answer the two are no longer alike: the run that led to it is what tells.
        if (got != want) {
            strayed = true;
            System.out.println(String.join("\n", said));
        }
    }
}
