/** Counts the answers that are not due. */
final class Due {
    private static final int SHOWN = 40;
    private String sentence = "";
    private int wrong;
    private int asked;

    /** The sentence of the document to which the next answers must hold. */
    void says(String text) {
        sentence = text;
    }

    void is(String call, long got, long want) {
        asked++;
        if (got != want) {
            tell(call, Long.toString(got), Long.toString(want));
        }
    }

    void same(String call, String got, String want) {
        asked++;
        if (!got.equals(want)) {
            tell(call, got, want);
        }
    }

    private void tell(String call, String got, String want) {
        wrong++;
        if (wrong <= SHOWN) {
            System.out.println((sentence.isEmpty() ? "" : "[" + sentence + "] ") + call + " answered " + got + ", due is " + want);
        }
    }

    void end(String name) {
        System.out.println(name + ": " + asked + " answers, " + wrong + " not as due");
        if (wrong != 0 || asked == 0) {
            System.exit(1);
        }
    }

    static void tape(FallCards x, String text) {
        for (int at = 0; at < text.length(); at += 8) {
            int n = Math.min(8, text.length() - at);
            long eight = 0;
            for (int i = 0; i < n; i++) {
                eight |= (long) (text.charAt(at + i) & 255) << 8 * i;
            }
            x.feed(eight, n);
        }
    }

    static int read(FallCards x, String text) {
        tape(x, text);
        return x.cards();
    }

    /** Laws under which nothing brakes, lifts, spins or blows: with weight 8 the n-th tick falls n. */
    static FallCards plain() {
        FallCards x = new FallCards();
        for (int law = 0; law < 5; law++) {
            x.set(law, 0);
        }
        return x;
    }
}
