/** Counts answers that are due, prints those that are not, and helps tests to fill shelves. */
final class Due {
    static final int BYTES = 0;
    static final int SHORTS = 1;
    static final int INTS = 2;

    private static int right = 0;
    private static int wrong = 0;

    private Due() {
    }

    static void due(String call, long got, long want) {
        if (got == want) {
            right++;
            return;
        }
        wrong++;
        System.out.println(call + " answered " + got + ", due is " + want);
    }

    static void end() {
        System.out.println(right + " answers as due, " + wrong + " not");
        if (wrong != 0) {
            System.exit(1);
        }
    }

    static void fillRow(NotInTheCoin x, int d, int sort, int... values) {
        due("row(" + d + ", " + sort + ", " + values.length + ")", x.row(d, sort, values.length), 0);
        for (int i = 0; i < values.length; i++) {
            due("put(" + d + ", " + i + ", " + values[i] + ")", x.put(d, i, values[i]), 0);
        }
    }

    static void fillText(NotInTheCoin x, int d, String text) {
        fillRow(x, d, BYTES, text.chars().toArray());
    }

    /** What town answers to a text, which comes by shelf 7. */
    static int tell(NotInTheCoin x, String text) {
        fillText(x, 7, text);
        return x.town(7);
    }

    /** A new town by its text, which must be without fault. */
    static NotInTheCoin townOf(String text) {
        NotInTheCoin x = new NotInTheCoin();
        if (!text.isEmpty() && tell(x, text) < 0) {
            due("town of " + text, x.town(7), 0);
        }
        x.keep(7, 0, 0, 0);
        return x;
    }

    /** The element, or -1 for IllegalArgumentException, -2 for IllegalStateException. */
    static long elementOr(NotInTheCoin x, int d, int i) {
        try {
            return x.element(d, i);
        } catch (IllegalArgumentException e) {
            return -1;
        } catch (IllegalStateException e) {
            return -2;
        }
    }

    /** All that the face tells of the town (not of shelves), for seeing that nothing changed. */
    static String stateOf(NotInTheCoin x) {
        StringBuilder state = new StringBuilder();
        for (int what = 0; what <= 6; what++) {
            state.append(x.count(what)).append(' ');
        }
        for (int i = 0; i < 8; i++) {
            for (int what = 0; what <= 3; what++) {
                state.append(x.good(i, what)).append(',').append(x.person(i, what)).append(',');
                state.append(x.loan(i, what)).append(' ');
            }
        }
        return state.toString();
    }
}
