import java.util.ArrayList;
import java.util.List;
import java.util.regex.Matcher;
import java.util.regex.Pattern;

/** The document's text read a second time, in another way: first cut into pieces, then held against patterns of pieces. */
final class TextModel {
    private static final List<String> KINDS = List.of("fall", "steady", "swinging", "turning", "righted", "winged");
    private static final List<String> LAWS = List.of("lift", "drag", "edge", "spin", "damp", "wind");

    final List<int[]> cards = new ArrayList<>();
    final int[] laws = {16, 8, 24, 20, 12, 32};
    final int[] hand = {0, 0, 1, 0, 0};
    private final List<String> pieces = new ArrayList<>();
    private final List<Integer> places = new ArrayList<>();
    private int at;

    /** The place of the fault, or -1. */
    int read(String text) {
        Matcher m = Pattern.compile("[a-z]+|[0-9]+|[^ ]", Pattern.DOTALL).matcher(text);
        while (m.find()) {
            pieces.add(m.group());
            places.add(m.start());
        }
        places.add(text.length());
        while (at < pieces.size()) {
            if (!statement()) {
                return places.get(at);
            }
        }
        return -1;
    }

    private String next() {
        return at < pieces.size() ? pieces.get(at) : "";
    }

    private boolean pass(String piece) {
        boolean here = next().equals(piece);
        at += here ? 1 : 0;
        return here;
    }

    private int number(int least, int most) {
        String n = next();
        if (!n.matches("[0-9]{1,2}") || Integer.parseInt(n) < least || Integer.parseInt(n) > most) {
            return -1;
        }
        at++;
        return Integer.parseInt(n);
    }

    private boolean statement() {
        String name = next();
        if (LAWS.contains(name)) {
            at++;
            int n = number(0, 63);
            if (n >= 0) {
                laws[LAWS.indexOf(name)] = n;
            }
            return n >= 0 && pass(";");
        }
        if (name.equals("hand")) {
            at++;
            return weights() && pass(";");
        }
        return KINDS.contains(name) && cards.size() < 6 && card(KINDS.indexOf(name)) && pass(";");
    }

    private boolean weights() {
        int sum = 0;
        for (int i = 0; i < 5; i++) {
            int n = number(i == 4 && sum == 0 ? 1 : 0, 9);
            if (n < 0) {
                return false;
            }
            hand[i] = n;
            sum += n;
        }
        return true;
    }

    private boolean card(int kind) {
        at++;
        int weight = number(1, 99);
        if (weight < 0 || !pass("wide")) {
            return false;
        }
        int wide = number(1, 9);
        if (wide < 0) {
            return false;
        }
        int clip = 0;
        if (pass("clip")) {
            int way = pass("-") ? -1 : 1;
            int n = number(0, 4);
            if (n < 0) {
                return false;
            }
            clip = way * n;
        }
        cards.add(new int[] {kind, weight, wide, clip + 10});
        return true;
    }
}
