import java.util.Arrays;
import java.util.function.Supplier;

/** The edges of promises 22 to 26: chains, clearing. */
public final class ChainEdgeTest {
    private static final String EIGHT_LENT = "l01;l11;l21;l31;l41;l51;l61;l71;";

    private ChainEdgeTest() {
    }

    public static void main(String[] args) {
        chainOfNoSteps();
        chainOfOneStep();
        chainOfTwoSteps();
        chainByLeastNumbers();
        chainArguments();
        climbWithoutAStep();
        climbBySteps();
        climbArguments();
        clearingOfNone();
        clearingOfAllEight();
        clearingNoneLast();
        clearingByWhatCanPayNow();
        clearingArguments();
        quarrelByOneMoreOrLess();
        quarrelArguments();
        shortestSizes();
        shortestKinds();
        shortestThirds();
        shortestFewest();
        shortestNone();
        shortestOfOneRowAfterTheOther();
        shortestArguments();
        shortestRefusalsInOrder();
        Due.end();
    }

    private static void chains(String when, Supplier<NotInTheCoin> made, int x, int y, int steps, int first) {
        Edge.leaves(when + ": chain(0, " + x + ", " + y + ", 0)", made, c -> c.chain(0, x, y, 0), steps);
        Edge.leaves(when + ": chain(0, " + x + ", " + y + ", 1)", made, c -> c.chain(0, x, y, 1), first);
    }

    private static void chainOfNoSteps() {
        chains("the only goods", Edge.town("p4;g000;"), 0, 0, 0, -4);
        chains("the last of eight", Edge.full(), 7, 7, 0, -4);
        chains("though two steps would come back", Edge.town("p4;g040;g100;"), 0, 0, 0, -4);
    }

    private static void chainOfOneStep() {
        Supplier<NotInTheCoin> made = Edge.town("p4;g110;g040;g050;g060;");
        chains("1 less", made, 0, 1, -4, -4);
        chains("as much", made, 0, 2, 1, 2);
        chains("1 more", made, 0, 3, 1, 3);
        chains("of the same kind", Edge.town("p4;g110;g190;"), 0, 1, -4, -4);
        chains("of one class", Edge.with(made, x -> x.sames(1, 0)), 0, 3, -4, -4);
        chains("others' goods, too", Edge.town("p4;p4;g001;g101;"), 0, 1, 1, 1);
        Supplier<NotInTheCoin> song = Edge.town("p3;g400;g030;");
        chains("by the week it is", song, 0, 1, -4, -4);
        chains("by the week it is", Edge.with(song, x -> x.weeks(1)), 0, 1, 1, 1);
    }

    private static void chainOfTwoSteps() {
        chains("by as much as both", Edge.town("p4;g100;g100;g040;"), 0, 1, 2, 2);
        chains("by 1 more than the end", Edge.town("p4;g100;g100;g050;"), 0, 1, -4, -4);
        chains("by 1 less than the first", Edge.town("p4;g100;g100;g030;"), 0, 1, -4, -4);
        chains("by what is between", Edge.town("p4;g100;g120;g050;"), 0, 1, 2, 2);
        chains("to what is worth less", Edge.town("p4;g120;g100;g050;"), 0, 1, -4, -4);
        Supplier<NotInTheCoin> byList = Edge.with(Edge.town("p4;g040;g100;g110;g050;"), x -> x.sames(0, 1));
        chains("none of another class", byList, 0, 1, -4, -4);
        Supplier<NotInTheCoin> byHen = Edge.with(Edge.town("p4;g040;g100;g710;"), x -> x.sames(0, 1));
        chains("by a hen of 6", byHen, 0, 1, 2, 2);
        Supplier<NotInTheCoin> byGrief = Edge.with(Edge.town("p3;g040;g100;g500;"), x -> x.sames(0, 1));
        chains("by grief of 6", byGrief, 0, 1, 2, 2);
    }

    private static void chainByLeastNumbers() {
        chains("of two as good", Edge.town("p4;g100;g040;g050;g120;"), 0, 3, 2, 1);
        chains("the least is none", Edge.town("p4;g030;g100;g050;g040;g120;"), 1, 4, 2, 2);
        chains("the last is one", Edge.town("p4;g100;g130;g000;g000;g000;g000;g000;g070;"), 0, 1, 2, 7);
        chains("fewest ahead of least", Edge.town("p4;g000;g110;g220;g120;"), 0, 3, 1, 3);
    }

    private static void chainArguments() {
        for (int what = 0; what <= 1; what++) {
            int asked = what;
            Edge.range("chain(p, 3, 1, " + what + ")", Edge.scene(), (x, p) -> x.chain(p, 3, 1, asked), 0, 3, -1);
            Edge.range("chain(3, x, 1, " + what + ")", Edge.scene(), (x, g) -> x.chain(3, g, 1, asked), 0, 3, -1);
            Edge.range("chain(3, 1, y, " + what + ")", Edge.scene(), (x, g) -> x.chain(3, 1, g, asked), 0, 3, -1);
        }
        Edge.range("chain(3, 3, 1, what)", Edge.scene(), (x, what) -> x.chain(3, 3, 1, what), 0, 1, -1);
        Edge.leaves("no such goods, though the same", Edge.scene(), x -> x.chain(0, 4, 4, 0), -1);
    }

    private static void climbWithoutAStep() {
        Edge.leaves("the only goods", Edge.town("p4;g000;"), x -> x.climb(0, 0), 0);
        Edge.leaves("only less", Edge.town("p4;g190;g000;"), x -> x.climb(0, 0), 0);
        Edge.leaves("more, but of the same kind", Edge.town("p4;g000;g090;"), x -> x.climb(0, 0), 0);
        Edge.leaves("a step to as much", Edge.town("p4;g100;g040;"), x -> x.climb(0, 0), 0);
    }

    private static void climbBySteps() {
        Edge.leaves("1 more", Edge.town("p4;g100;g050;"), x -> x.climb(0, 0), 1);
        Edge.leaves("1 less", Edge.town("p4;g100;g030;"), x -> x.climb(0, 0), 0);
        Edge.leaves("two steps, to its own kind", Edge.town("p4;g100;g190;g040;"), x -> x.climb(0, 0), 9);
        Edge.leaves("no second step", Edge.town("p4;g100;g190;g030;"), x -> x.climb(0, 0), 0);
        Edge.leaves("to the first goods", Edge.town("p4;g050;g100;"), x -> x.climb(0, 1), 1);
        Edge.leaves("to the last goods", Edge.town("p4;" + "g000;".repeat(7) + "g100;"), x -> x.climb(0, 0), 4);
        Edge.leaves("from 0 to a hen of 9", Edge.town("p0;g300;g790;"), x -> x.climb(0, 0), 17);
        Edge.leaves("by the week it is", Edge.town("p3;g400;g030;"), x -> x.climb(0, 0), 0);
        Edge.leaves("by the week it is", Edge.town("p3;g030;g400;"), x -> x.climb(0, 0), 1);
        Edge.leaves("in week 1", Edge.town("p3;g030;g400;w01;"), x -> x.climb(0, 0), 0);
    }

    private static void climbArguments() {
        Edge.range("climb(p, 3)", Edge.scene(), (x, p) -> x.climb(p, 3), 0, 3, -1);
        Edge.range("climb(3, x)", Edge.scene(), (x, g) -> x.climb(3, g), 0, 3, -1);
        Edge.range("climb(5, x)", Edge.full(), (x, g) -> x.climb(5, g), 0, 7, -1);
    }

    /** From -1 on: how many are paid, then the goods of each loan. */
    private static void clears(String when, Supplier<NotInTheCoin> made, int... due) {
        for (int l = -1; l < due.length - 1; l++) {
            int loan = l;
            Edge.leaves(when + ": clearing(" + l + ")", made, x -> x.clearing(loan), due[l + 1]);
        }
    }

    private static void clearingOfNone() {
        clears("no loans", Edge.fresh(), 0);
        clears("nothing to pay with", Edge.town("p4;p4;g000;l01;"), 0, -4);
        clears("1 less than enough", Edge.town("p4;p4;g110;g041;l01;"), 0, -4);
        clears("as much as is enough", Edge.town("p4;p4;g110;g051;l01;"), 1, 1);
        clears("paid", Edge.with(Edge.town("p4;p4;g110;g051;l01;"), x -> x.pays(0, 1)), 0, -4);
    }

    private static void clearingOfAllEight() {
        String four = "p4;p4;g040;g040;g040;g040;g100;g100;g100;g100;";
        clears("eight", Edge.town(four + EIGHT_LENT), 8, 4, 5, 6, 7, 0, 1, 2, 3);
        Supplier<NotInTheCoin> onePaid = Edge.with(Edge.town(four + EIGHT_LENT), x -> x.pays(0, 7));
        clears("seven, one silver less", onePaid, 7, -4, 4, 5, 6, 0, 1, 2, 3);
    }

    private static void clearingNoneLast() {
        String five = "p4;p4;g040;g040;g040;g040;g040;g100;g100;g100;";
        clears("three silvers for five things", Edge.town(five + EIGHT_LENT), 6, 5, 6, 7, -4, -4, 0, 1, 2);
        String last = "p4;p4;g040;g020;g040;g110;";
        clears("none for who wants more", Edge.town(last + "l31;l01;l11;l21;"), 1, -4, 3, -4, -4);
    }

    private static void clearingByWhatCanPayNow() {
        Supplier<NotInTheCoin> chained = Edge.town("p9;p9;p9;g000;g001;g102;l01;l12;");
        clears("what loan 1 brings is not there for loan 0", chained, 1, -4, 2);
        Supplier<NotInTheCoin> song = Edge.town("p3;p3;g400;g031;l01;");
        clears("by the week it is", song, 0, -4);
        clears("by the week it is", Edge.town("p3;p3;g400;g031;w01;l01;"), 1, 1);
    }

    private static void clearingArguments() {
        Edge.range("clearing(l)", Edge.scene(), (x, l) -> x.clearing(l), -1, 1, -1);
        Edge.range("clearing(l) of 8", Edge.full(), (x, l) -> x.clearing(l), -1, 7, -1);
        Edge.range("clearing(l) of none", Edge.fresh(), (x, l) -> x.clearing(l), -1, -1, -1);
    }

    private static void quarrelByOneMoreOrLess() {
        String walkAndThing = "g300;g030;";
        Edge.leaves("5 to both", Edge.town("p5;p5;" + walkAndThing), x -> x.quarrel(0, 1), 0);
        Edge.leaves("1 more to one alone", Edge.town("p6;p5;" + walkAndThing), x -> x.quarrel(0, 1), 0);
        Edge.leaves("1 less to one alone", Edge.town("p4;p5;" + walkAndThing), x -> x.quarrel(0, 1), 0);
        Edge.leaves("1 more and 1 less", Edge.town("p6;p4;" + walkAndThing), x -> x.quarrel(0, 1), 1);
        Edge.leaves("1 less and 1 more", Edge.town("p4;p6;" + walkAndThing), x -> x.quarrel(0, 1), 1);
        Edge.leaves("the other way", Edge.town("p4;p6;" + walkAndThing), x -> x.quarrel(1, 0), 1);
        Edge.leaves("more to all", Edge.town("p6;p7;" + walkAndThing), x -> x.quarrel(0, 1), 0);
        Edge.leaves("less to all", Edge.town("p3;p4;" + walkAndThing), x -> x.quarrel(0, 1), 0);
        Edge.leaves("the first and the last of six", Edge.town("p6;p5;p5;p5;p5;p4;" + walkAndThing),
            x -> x.quarrel(0, 1), 1);
        Edge.leaves("of one class", Edge.with(Edge.town("p6;p4;" + walkAndThing), x -> x.sames(0, 3)),
            x -> x.quarrel(0, 1), 1);
        Edge.leaves("each by his own taste", Edge.town("p4;p9;g400;g141;"), x -> x.quarrel(0, 1), 1);
        Edge.leaves("6 to the one in week 0", Edge.town("p3;p9;g400;g100;"), x -> x.quarrel(0, 1), 0);
        Edge.leaves("5 in week 1", Edge.town("p3;p9;g400;g100;w01;"), x -> x.quarrel(0, 1), 1);
    }

    private static void quarrelArguments() {
        Edge.range("quarrel(x, 1)", Edge.scene(), (x, g) -> x.quarrel(g, 1), 0, 3, -1);
        Edge.range("quarrel(1, y)", Edge.scene(), (x, g) -> x.quarrel(1, g), 0, 3, -1);
        for (int g = 0; g < 4; g++) {
            int goods = g;
            Edge.leaves("one twice", Edge.scene(), x -> x.quarrel(goods, goods), -1);
        }
    }

    private static void shortest(String when, Supplier<NotInTheCoin> made, int... due) {
        for (int k = -1; k < 8; k++) {
            int kind = k;
            Edge.gives(when + ": shortest(5, " + k + ")", made, x -> x.shortest(5, kind), due[k + 1]);
        }
    }

    private static Supplier<NotInTheCoin> told(int... row) {
        return Edge.rowAt(Edge.scene(), 5, Due.BYTES, row);
    }

    private static void shortestSizes() {
        shortest("nothing told", told(), 1, 0, 0, 0, 0, 0, 0, 0, 0);
        Edge.leaves("1 number", told(0), x -> x.shortest(5, -1), -13);
        Edge.leaves("2 numbers", told(0, 7), x -> x.shortest(5, -1), -13);
        shortest("3 numbers", told(0, 7, 0), 2, 0, 0, 0, 0, 0, 0, 0, 1);
        Edge.leaves("4 numbers", told(0, 7, 0, 1), x -> x.shortest(5, 7), -13);
        int[] row = new int[99];
        for (int i = 0; i < row.length; i++) {
            row[i] = i % 3 == 2 ? 1 : i % 8;
        }
        row[96] = 7;
        row[97] = 7;
        row[98] = 0;
        Supplier<NotInTheCoin> last = Edge.rowAt(Edge.fresh(), 5, Due.INTS, row);
        Edge.gives("the last of 99 is told, too", last, x -> x.shortest(5, -1), -4);
        Supplier<NotInTheCoin> hundred = Edge.rowAt(Edge.fresh(), 5, Due.SHORTS, Arrays.copyOf(row, 100));
        Edge.leaves("100 numbers", hundred, x -> x.shortest(5, -1), -13);
    }

    private static void shortestKinds() {
        Edge.leaves("first kind -1", told(-1, 2, 0), x -> x.shortest(5, 0), -13);
        Edge.leaves("first kind 8", told(8, 2, 0), x -> x.shortest(5, 0), -13);
        Edge.leaves("second kind -1", told(2, -1, 0), x -> x.shortest(5, 0), -13);
        Edge.leaves("second kind 8", told(2, 8, 0), x -> x.shortest(5, 0), -13);
        Edge.leaves("in the last three", told(0, 7, 0, 7, 0, 0, 3, 8, 1), x -> x.shortest(5, -1), -13);
        Edge.leaves("nothing is skipped", told(-128, 2, 0), x -> x.shortest(5, -1), -13);
        Edge.leaves("a byte keeps 0 of 256", told(256, 7, 0), x -> x.shortest(5, 7), 1);
    }

    private static void shortestThirds() {
        Edge.leaves("third -1", told(1, 2, -1), x -> x.shortest(5, 0), -13);
        Edge.leaves("third 0", told(1, 2, 0), x -> x.shortest(5, 2), 1);
        Edge.leaves("third 1", told(1, 2, 1), x -> x.shortest(5, 2), 0);
        Edge.leaves("third 2", told(1, 2, 2), x -> x.shortest(5, 0), -13);
        Edge.leaves("in the last three", told(0, 7, 0, 7, 0, 0, 3, 4, 2), x -> x.shortest(5, -1), -13);
    }

    private static int[] allOthers(int pairs) {
        int[] row = new int[3 * pairs];
        int i = 0;
        for (int a = 0; a < 8; a++) {
            for (int b = a + 1; b < 8 && i < row.length; b++) {
                row[i] = a;
                row[i + 1] = b;
                i += 3;
            }
        }
        return row;
    }

    private static void shortestFewest() {
        shortest("one class", told(0, 7, 1, 3, 4, 1), 1, 0, 0, 0, 0, 0, 0, 0, 0);
        shortest("seven classes", told(allOthers(27)), 7, 0, 1, 2, 3, 4, 5, 6, 6);
        shortest("eight classes", told(allOthers(28)), 8, 0, 1, 2, 3, 4, 5, 6, 7);
        shortest("least numbers", told(7, 0, 0, 6, 7, 1), 2, 0, 0, 0, 0, 0, 0, 1, 1);
        shortest("told twice", told(1, 2, 0, 2, 1, 0, 1, 2, 0), 2, 0, 0, 1, 0, 0, 0, 0, 0);
        Edge.leaves("the list of the town stays", told(0, 7, 1), x -> x.shortest(5, -1), 1);
    }

    private static void shortestNone() {
        for (int kind = 0; kind < 8; kind++) {
            shortest("not as itself", told(kind, kind, 0), -4, -4, -4, -4, -4, -4, -4, -4, -4);
        }
        shortest("as itself", told(7, 7, 1), 1, 0, 0, 0, 0, 0, 0, 0, 0);
        shortest("both ways", told(0, 7, 1, 7, 0, 0), -4, -4, -4, -4, -4, -4, -4, -4, -4);
        Edge.leaves("-13 ahead of -4", told(7, 7, 0, 8, 0, 0), x -> x.shortest(5, -1), -13);
        Edge.leaves("-13 ahead of -4", told(7, 7, 0, 1), x -> x.shortest(5, -1), -13);
    }

    private static void shortestOfOneRowAfterTheOther() {
        NotInTheCoin x = new NotInTheCoin();
        for (int kind = 0; kind < 8; kind++) {
            int other = (kind + 1) % 8;
            Due.fillRow(x, 0, Due.BYTES, kind, kind, 0);
            Due.due("not as itself", x.shortest(0, -1), -4);
            Due.fillRow(x, 0, Due.BYTES, kind, other, 0);
            Due.due("not as another one", x.shortest(0, -1), 2);
            Due.fillRow(x, 0, Due.BYTES, kind, other, 1);
            Due.due("as another one", x.shortest(0, -1), 1);
            Due.fillRow(x, 0, Due.BYTES);
            Due.due("nothing told", x.shortest(0, -1), 1);
        }
    }

    private static void shortestArguments() {
        Supplier<NotInTheCoin> rows = Edge.rowsEverywhere(Edge.scene(), Due.SHORTS, 1, 2, 0);
        Edge.range("shortest(d, -1)", rows, (x, d) -> x.shortest(d, -1), 0, 7, -1);
        Edge.range("shortest(0, k)", rows, (x, k) -> x.shortest(0, k), -1, 7, -1);
        Edge.leaves("of nothing", Edge.scene(), x -> x.shortest(0, -1), -11);
        Edge.leaves("of a thing", Edge.scene(), x -> x.shortest(1, 7), -12);
    }

    private static void shortestRefusalsInOrder() {
        Edge.leaves("-1 ahead of -11", Edge.scene(), x -> x.shortest(0, 8), -1);
        Edge.leaves("-1 ahead of -11", Edge.scene(), x -> x.shortest(0, -2), -1);
        Edge.leaves("-1 ahead of -12", Edge.scene(), x -> x.shortest(1, 8), -1);
        Edge.leaves("-1 ahead of -13", told(8), x -> x.shortest(5, 8), -1);
        Edge.leaves("-1 ahead of -4", told(7, 7, 0), x -> x.shortest(5, -2), -1);
    }
}
