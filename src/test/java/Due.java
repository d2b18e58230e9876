/** Counts the answers that are not due. */
final class Due {
    private int wrong;
    private int asked;

    void is(String call, long got, long want) {
        asked++;
        if (got != want) {
            wrong++;
        }
        if (got != want && wrong <= 40) {
            System.out.println(call + " answered " + got + ", due is " + want);
        }
    }

    void end(String name) {
        System.out.println(name + ": " + asked + " answers, " + wrong + " not as due");
        if (wrong != 0 || asked == 0) {
            System.exit(1);
        }
    }

    static void tape(FallCards x, String text) {
        for (int at = 0; at < text.length(); at += 8) {
            int n = Math.min(8, text.length() - at);
            long eight = 0;
            for (int i = 0; i < n; i++) {
                eight |= (long) (text.charAt(at + i) & 255) << 8 * i;
            }
            x.feed(eight, n);
        }
    }

    static int read(FallCards x, String text) {
        tape(x, text);
        return x.cards();
    }

    /** Laws under which nothing brakes, lifts, spins or blows: with weight 8 the n-th tick falls n. */
    static FallCards plain() {
        FallCards x = new FallCards();
        for (int law = 0; law < 5; law++) {
            x.set(law, 0);
        }
        return x;
    }

    /** All that can be asked without a change. */
    static String look(FallCards x) {
        StringBuilder b = new StringBuilder();
        for (int i = 0; i < 5; i++) {
            b.append(x.many(i)).append(' ');
        }
        for (int i = 0; i < 6; i++) {
            for (int what = 0; what < 4; what++) {
                b.append(x.cardOf(i, what)).append(' ');
            }
            int law = x.set(i, 5);
            x.set(i, law);
            b.append("law ").append(law).append(' ');
        }
        for (int i = 0; i < 5; i++) {
            int weight = x.hand(i, 9);
            x.hand(i, weight);
            b.append("hand ").append(weight).append(' ');
        }
        for (int what = 0; what < 9; what++) {
            b.append(x.air(what)).append(' ');
        }
        int z = x.seed(0);
        x.seed(z);
        b.append("z ").append(z).append(' ');
        for (int i = 0; i < 20; i++) {
            for (int what = 0; what < 3; what++) {
                b.append(x.row(i, what)).append(' ');
            }
        }
        for (int s = 0; s < 4; s++) {
            for (int sort = 0; sort < 4; sort++) {
                for (int i = 0; i <= 40; i++) {
                    b.append(x.item(s, sort, i)).append(' ');
                }
                b.append(x.taken(s, 10 + sort)).append(' ');
            }
            for (int kind = 0; kind < 6; kind++) {
                b.append(x.taken(s, kind)).append(' ');
            }
        }
        for (int i = 0; i < 30; i++) {
            b.append(x.trace(i)).append(' ');
        }
        return b.toString();
    }
}
