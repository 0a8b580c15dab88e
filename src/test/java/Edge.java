import java.util.function.Consumer;
import java.util.function.Supplier;
import java.util.function.ToLongBiFunction;
import java.util.function.ToLongFunction;

/**
 * Edges of what is promised. Each call goes to an object of its own, made anew, so that no test
 * stands on what another one left, and none comes near the 512 calls that an object is made for.
 */
final class Edge {
    private Edge() {
    }

    static Supplier<NotInTheCoin> fresh() {
        return NotInTheCoin::new;
    }

    static Supplier<NotInTheCoin> town(String text) {
        return () -> Due.townOf(text);
    }

    static Supplier<NotInTheCoin> with(Supplier<NotInTheCoin> made, Consumer<NotInTheCoin> more) {
        return () -> {
            NotInTheCoin x = made.get();
            more.accept(x);
            return x;
        };
    }

    /** 4 people, 4 goods, loan 0 paid and loan 1 open, an image of less, and something on shelves 1 to 4. */
    static Supplier<NotInTheCoin> scene() {
        return with(town("p4;p9;p0;g040;g101;g292;g302;l01;l20;"), x -> {
            x.image();
            x.comes(6);
            x.sames(6, 7);
            Due.due("pays(0, 1)", x.pays(0, 1), 1);
            Due.due("weeks(5)", x.weeks(5), 1);
            x.keep(1, 1, 7, 3);
            Due.fillRow(x, 2, Due.BYTES, 3, -128, 7);
            Due.fillRow(x, 3, Due.SHORTS, 1, 2);
            Due.fillRow(x, 4, Due.INTS, 9);
        });
    }

    /** 6 people, 8 goods, 8 loans: no room for more. */
    static Supplier<NotInTheCoin> full() {
        return town("p4;p5;p6;p7;p8;p9;g040;g140;g240;g340;g441;g542;g643;g745;l01;l12;l23;l34;l15;l10;l12;l13;");
    }

    static Supplier<NotInTheCoin> rowAt(Supplier<NotInTheCoin> made, int d, int sort, int... values) {
        return with(made, x -> Due.fillRow(x, d, sort, values));
    }

    static Supplier<NotInTheCoin> rowsEverywhere(Supplier<NotInTheCoin> made, int sort, int... values) {
        return with(made, x -> {
            for (int d = 0; d < 8; d++) {
                Due.fillRow(x, d, sort, values);
            }
        });
    }

    static Supplier<NotInTheCoin> thingsEverywhere(Supplier<NotInTheCoin> made, int kind, int figure) {
        return with(made, x -> {
            for (int d = 0; d < 8; d++) {
                Due.due("keep", x.keep(d, 1, kind, figure), 0);
            }
        });
    }

    static Supplier<NotInTheCoin> weeksOn(Supplier<NotInTheCoin> made, int weeks) {
        return with(made, x -> {
            for (int left = weeks; left > 0; left -= 60) {
                x.weeks(Math.min(left, 60));
            }
        });
    }

    static void gives(String call, Supplier<NotInTheCoin> made, ToLongFunction<NotInTheCoin> asked, long want) {
        Due.due(call, asked.applyAsLong(made.get()), want);
    }

    /** What a call answers, and that all that later calls show is as if it had not been. */
    static void leaves(String call, Supplier<NotInTheCoin> made, ToLongFunction<NotInTheCoin> asked, long want) {
        NotInTheCoin x = made.get();
        Due.due(call, asked.applyAsLong(x), want);
        boolean same = all(x).equals(all(made.get()));
        Due.due(call + " leaves all as it was", same ? 1 : 0, 1);
    }

    /** An argument with a first and a last value: both are answered, and what is beyond is refused. */
    static void range(String call, Supplier<NotInTheCoin> made, ToLongBiFunction<NotInTheCoin, Integer> asked,
            int first, int last, long refusal) {
        for (int inside : new int[] {first, last}) {
            long answer = asked.applyAsLong(made.get(), inside);
            boolean isAnswered = (answer >= 0 || answer == -4) && answer < 1000000000;
            Due.due(call + " with " + inside + " is answered (" + answer + ")", isAnswered ? 1 : 0, 1);
        }
        for (int outside : new int[] {first - 1, last + 1, Integer.MIN_VALUE, Integer.MAX_VALUE}) {
            leaves(call + " with " + outside, made, x -> asked.applyAsLong(x, outside), refusal);
        }
    }

    /** All that later calls show: the town, the list, what shelves hold, then the image. */
    private static String all(NotInTheCoin x) {
        StringBuilder all = new StringBuilder(Due.stateOf(x));
        for (int d = 0; d < 8; d++) {
            all.append(x.cost(d)).append(',').append(x.toss(d)).append(',');
            all.append(x.copy(d, 0, (d + 1) % 8, 0, 0)).append(':').append(elements(x, d));
        }
        all.append(list(x)).append(" image ").append(x.restore()).append(' ').append(Due.stateOf(x)).append(list(x));
        return all.toString();
    }

    private static String elements(NotInTheCoin x, int d) {
        StringBuilder elements = new StringBuilder();
        try {
            for (int i = 0; i <= 100; i++) {
                elements.append(x.element(d, i)).append(' ');
            }
        } catch (IllegalStateException end) {
            elements.append("end ");
        }
        return elements.toString();
    }

    private static String list(NotInTheCoin x) {
        StringBuilder classes = new StringBuilder(" list ");
        for (int kind = 1; kind < 8; kind++) {
            classes.append(x.sames(0, kind)).append(' ');
        }
        return classes.append(x.sames(1, 0)).toString();
    }
}
