/**
 * What an object's state shows. An object is good for 512 calls, so nothing is asked twice: all() takes some 150 calls,
 * whole() some 280.
 */
final class Look {
    private Look() {
    }

    /** Cards, laws, hand, the air and z: what keep() keeps. */
    static String world(FallCards x) {
        StringBuilder b = new StringBuilder();
        int cards = x.many(0);
        b.append("cards ").append(cards);
        for (int i = 0; i < cards; i++) {
            for (int what = 0; what < 4; what++) {
                b.append(what == 0 ? " (" : " ").append(x.cardOf(i, what));
            }
            b.append(')');
        }
        b.append(" laws");
        for (int i = 0; i < 6; i++) {
            int law = x.set(i, 5);
            x.set(i, law);
            b.append(' ').append(law);
        }
        b.append(" hand");
        for (int i = 0; i < 5; i++) {
            int weight = x.hand(i, 9);
            x.hand(i, weight);
            b.append(' ').append(weight);
        }
        b.append(" air");
        for (int what = 0; what < 9; what++) {
            b.append(' ').append(x.air(what));
        }
        int z = x.seed(0);
        x.seed(z);
        return b.append(" z ").append(z).toString();
    }

    static String rows(FallCards x) {
        StringBuilder b = new StringBuilder();
        int rows = x.many(1);
        b.append(" rows ").append(rows);
        for (int i = 0; i < rows * 3; i++) {
            b.append(' ').append(x.row(i / 3, i % 3));
        }
        return b.toString();
    }

    /** Sheets that hold no -12, which would look like their end. */
    static String host(FallCards x) {
        StringBuilder b = new StringBuilder();
        for (int s = 0; s < 4; s++) {
            b.append(" sheet");
            for (int sort = 0; sort < 4; sort++) {
                int place = x.item(s, sort, -1);
                b.append(' ').append(place);
                for (int i = 0; i < 40 && place == -12; i++) {
                    int item = x.item(s, sort, i);
                    b.append(' ').append(item);
                    place = item == -12 ? 0 : place;
                }
            }
        }
        for (int s = 0; s < 4; s++) {
            b.append(" shelf");
            for (int as = 0; as < 14; as = as == 5 ? 10 : as + 1) {
                b.append(' ').append(x.taken(s, as));
            }
        }
        int bodies = x.many(3);
        b.append(" trace ").append(bodies);
        for (int i = 0; i < bodies; i++) {
            b.append(' ').append(x.trace(i));
        }
        return b.toString();
    }

    /** All that can be asked without a change. */
    static String all(FallCards x) {
        return world(x) + rows(x) + host(x) + " tape " + x.many(2);
    }

    /** All, and then what is on the tape and what is kept: these are used up by looking. */
    static String whole(FallCards x) {
        return all(x) + " read " + x.cards() + ' ' + world(x) + " again " + x.again() + ' ' + world(x);
    }
}
