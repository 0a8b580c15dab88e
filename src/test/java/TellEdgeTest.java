import java.util.Arrays;
import java.util.function.Supplier;

/** The edges of promises 27 to 35: what rows tell, two, markets, towns by seeds. */
public final class TellEdgeTest {
    private static final long REFUSED = 1000000001L;
    private static final int[] LEAST = {-128, -32768, Integer.MIN_VALUE};

    private TellEdgeTest() {
    }

    public static void main(String[] args) {
        lentByRows();
        lentGoods();
        lentArguments();
        whatIsByFigures();
        whatIsByKinds();
        whatIsBeyond999();
        whatIsArguments();
        whatIsSkipsTheLeast();
        tastesByNumbers();
        tastesAsManyAsGoods();
        tastesArguments();
        tastesSkipTheLeast();
        twoByWorth();
        twoArguments();
        marketByOdds();
        marketArguments();
        meanOfNone();
        meanOfEight();
        meanArguments();
        forgedPlaces();
        forgedGoods();
        forgedArguments();
        judgedWeeks();
        judgedBeyond999();
        judgedSkipsTheLeast();
        judgeArguments();
        townsBySeeds();
        townsOneBehindTheOther();
        townsFromNow();
        townsOfFew();
        townsArguments();
        Due.end();
    }

    private static Supplier<NotInTheCoin> told(Supplier<NotInTheCoin> made, int... row) {
        return Edge.rowAt(made, 5, Due.INTS, row);
    }

    private static void lends(String when, Supplier<NotInTheCoin> made, int bits) {
        Edge.leaves(when + ": lent(5, 0, 0)", made, x -> x.lent(5, 0, 0), bits);
        Edge.leaves(when + ": lent(5, 0, 1)", made, x -> x.lent(5, 0, 1), Integer.bitCount(bits));
    }

    private static void lentByRows() {
        Supplier<NotInTheCoin> made = Edge.town("p4;g110;g040;g050;g060;");
        lends("nothing told", told(made), 15);
        lends("nothing told of no goods", told(Edge.town("p4;")), 0);
        lends("1 less", told(made, 1), 0);
        lends("as much", told(made, 2), 1);
        lends("1 more", told(made, 3), 1);
        lends("the goods of most worth", told(made, 0), 6);
        lends("what is the same", told(Edge.town("p4;g000;g090;"), 1), 0);
        lends("each of them", told(made, 2, 1), 0);
        lends("each of them", told(made, 2, 3), 1);
        lends("none of the row", told(made, 0, 2), 0);
        int[] hundred = new int[100];
        Arrays.fill(hundred, 3);
        Edge.gives("a hundred", told(made, hundred), x -> x.lent(5, 0, 0), 1);
        hundred[99] = 1;
        Edge.gives("the last of a hundred is told, too", told(made, hundred), x -> x.lent(5, 0, 0), 0);
        lends("seven of eight", told(Edge.town("p4;" + "g000;".repeat(7) + "g190;"), 7), 127);
        lends("of others' goods", told(Edge.town("p4;p4;g001;g101;"), 1), 1);
    }

    private static void lentGoods() {
        for (int what = 0; what <= 1; what++) {
            int asked = what;
            for (int g : new int[] {-1, 4, Integer.MAX_VALUE, Integer.MIN_VALUE}) {
                Edge.leaves("no goods " + g, told(Edge.scene(), g), x -> x.lent(5, 0, asked), -13);
                Edge.leaves("no goods " + g + " last", told(Edge.scene(), 0, 3, g), x -> x.lent(5, 0, asked), -13);
            }
        }
        Edge.gives("goods 0 and 3", told(Edge.scene(), 0, 3), x -> x.lent(5, 0, 1) >= 0 ? 1 : 0, 1);
        Edge.leaves("no goods at all", told(Edge.town("p4;"), 0), x -> x.lent(5, 0, 0), -13);
        for (int sort = 0; sort <= 2; sort++) {
            Supplier<NotInTheCoin> least = Edge.rowAt(Edge.scene(), 5, sort, 1, LEAST[sort]);
            Edge.leaves("the least number of sort " + sort + " is not skipped", least, x -> x.lent(5, 0, 0), -13);
        }
    }

    private static void lentArguments() {
        Supplier<NotInTheCoin> rows = Edge.rowsEverywhere(Edge.scene(), Due.BYTES, 1);
        Edge.range("lent(d, 3, 0)", rows, (x, d) -> x.lent(d, 3, 0), 0, 7, -1);
        Edge.range("lent(0, p, 0)", rows, (x, p) -> x.lent(0, p, 0), 0, 3, -1);
        Edge.range("lent(0, 3, what)", rows, (x, what) -> x.lent(0, 3, what), 0, 1, -1);
        Edge.leaves("of nothing", Edge.scene(), x -> x.lent(0, 0, 0), -11);
        Edge.leaves("of a thing", Edge.scene(), x -> x.lent(1, 0, 0), -12);
        Edge.leaves("-1 ahead of -11", Edge.scene(), x -> x.lent(0, 4, 0), -1);
        Edge.leaves("-1 ahead of -11", Edge.scene(), x -> x.lent(0, 0, 2), -1);
        Edge.leaves("-1 ahead of -12", Edge.scene(), x -> x.lent(1, -1, 0), -1);
        Edge.leaves("-1 ahead of -12", Edge.scene(), x -> x.lent(1, 0, -1), -1);
        Edge.leaves("-1 ahead of -13", told(Edge.scene(), 4), x -> x.lent(5, 4, 0), -1);
        Edge.leaves("-1 ahead of -13", told(Edge.scene(), 4), x -> x.lent(5, 0, 2), -1);
    }

    /** A thing, a silver and a walk of figure 3, to one of taste 4. */
    private static Supplier<NotInTheCoin> three(int... row) {
        return told(Edge.town("p4;g030;g130;g330;"), row);
    }

    private static void whatIsByFigures() {
        Edge.leaves("a thing of 1", three(1), x -> x.whatIs(5, 0, 0, 1), 0);
        Edge.leaves("a thing of 2", three(2), x -> x.whatIs(5, 0, 0, 1), 1);
        Edge.leaves("a thing of 11", three(11), x -> x.whatIs(5, 0, 0, 1), 512);
        Edge.leaves("a thing of 12", three(12), x -> x.whatIs(5, 0, 0, 1), 0);
        Edge.leaves("a silver of 5", three(5), x -> x.whatIs(5, 0, 1, 1), 0);
        Edge.leaves("a silver of 6", three(6), x -> x.whatIs(5, 0, 1, 1), 1);
        Edge.leaves("a silver of 15", three(15), x -> x.whatIs(5, 0, 1, 1), 512);
        Edge.leaves("a silver of 16", three(16), x -> x.whatIs(5, 0, 1, 1), 0);
        Edge.leaves("a walk of 4", three(4), x -> x.whatIs(5, 0, 2, 1), 1023);
        Edge.leaves("a walk of 5", three(5), x -> x.whatIs(5, 0, 2, 1), 0);
        Edge.leaves("nothing told", three(), x -> x.whatIs(5, 0, 0, 1), 1023);
    }

    /** Of figure 3 to taste 4 in week 0: thing 5, silver 9, cheese 7, walk 4, song 8, grief 5, egg 3, hen 9. */
    private static void whatIsByKinds() {
        int[] kinds = {0, 0, 0, 64, 8, 33, 0, 4, 16, 130, 0};
        for (int worth = 0; worth < kinds.length; worth++) {
            int bits = kinds[worth];
            for (int g = 0; g < 3; g++) {
                int goods = g;
                Edge.leaves("kinds of " + worth, three(worth), x -> x.whatIs(5, 0, goods, 0), bits);
            }
        }
        Edge.leaves("nothing told", three(), x -> x.whatIs(5, 0, 2, 0), 255);
        Edge.leaves("a hen in the next week", three(9, 9), x -> x.whatIs(5, 0, 0, 0), 130);
        Edge.leaves("a hen in the week behind it", three(9, 9, 8), x -> x.whatIs(5, 0, 0, 0), 128);
        Edge.leaves("a song in the next week", three(8, 7), x -> x.whatIs(5, 0, 0, 0), 16);
        Edge.leaves("the last is not so", three(8, 7, 8, 8), x -> x.whatIs(5, 0, 0, 0), 0);
    }

    private static void whatIsBeyond999() {
        Supplier<NotInTheCoin> week999 = Edge.weeksOn(Edge.town("p4;g230;"), 999);
        Edge.leaves("week 999", told(week999, 7), x -> x.whatIs(5, 0, 0, 0), 20);
        Edge.leaves("weeks 999 and 1000", told(week999, 7, 6), x -> x.whatIs(5, 0, 0, 0), 4);
        Edge.leaves("weeks 999 to 1002", told(week999, 7, 6, 5, 7), x -> x.whatIs(5, 0, 0, 1), 8);
        int[] hundred = new int[100];
        for (int i = 0; i < 100; i++) {
            hundred[i] = 7 - i % 3;
        }
        Edge.gives("a hundred weeks", told(week999, hundred), x -> x.whatIs(5, 0, 0, 0), 4);
        hundred[99]--;
        Edge.gives("the last of a hundred is not so", told(week999, hundred), x -> x.whatIs(5, 0, 0, 0), 0);
    }

    private static void whatIsArguments() {
        Supplier<NotInTheCoin> rows = Edge.rowsEverywhere(Edge.scene(), Due.SHORTS, 5);
        for (int what = 0; what <= 1; what++) {
            int asked = what;
            Edge.range("whatIs(d, 3, 3, " + what + ")", rows, (x, d) -> x.whatIs(d, 3, 3, asked), 0, 7, -1);
            Edge.range("whatIs(0, p, 3, " + what + ")", rows, (x, p) -> x.whatIs(0, p, 3, asked), 0, 3, -1);
            Edge.range("whatIs(0, 3, g, " + what + ")", rows, (x, g) -> x.whatIs(0, 3, g, asked), 0, 3, -1);
            Edge.leaves("of nothing", Edge.scene(), x -> x.whatIs(0, 0, 0, asked), -11);
            Edge.leaves("of a thing", Edge.scene(), x -> x.whatIs(1, 0, 0, asked), -12);
        }
        Edge.range("whatIs(0, 3, 3, what)", rows, (x, what) -> x.whatIs(0, 3, 3, what), 0, 1, -1);
        Edge.leaves("-1 ahead of -11", Edge.scene(), x -> x.whatIs(0, 4, 0, 0), -1);
        Edge.leaves("-1 ahead of -11", Edge.scene(), x -> x.whatIs(0, 0, 4, 0), -1);
        Edge.leaves("-1 ahead of -11", Edge.scene(), x -> x.whatIs(0, 0, 0, 2), -1);
        Edge.leaves("-1 ahead of -12", Edge.scene(), x -> x.whatIs(1, 4, 0, 0), -1);
        Edge.leaves("-1 ahead of -12", Edge.scene(), x -> x.whatIs(1, 0, 4, 0), -1);
        Edge.leaves("-1 ahead of -12", Edge.scene(), x -> x.whatIs(1, 0, 0, -1), -1);
    }

    /** Of each sort the least number alone says nothing; one more, and the least of another sort, are told. */
    private static void whatIsSkipsTheLeast() {
        Supplier<NotInTheCoin> made = Edge.town("p4;g030;");
        for (int sort = 0; sort <= 2; sort++) {
            int least = LEAST[sort];
            Supplier<NotInTheCoin> alone = Edge.rowAt(made, 5, sort, least);
            Edge.leaves("skipped in sort " + sort, alone, x -> x.whatIs(5, 0, 0, 0), 255);
            Edge.leaves("skipped in sort " + sort, alone, x -> x.whatIs(5, 0, 0, 1), 1023);
            Supplier<NotInTheCoin> first = Edge.rowAt(made, 5, sort, least, 7);
            Edge.leaves("a week is skipped", first, x -> x.whatIs(5, 0, 0, 0), 16);
            Edge.leaves("one more is told", Edge.rowAt(made, 5, sort, least + 1), x -> x.whatIs(5, 0, 0, 0), 0);
            Edge.leaves("the most is told", Edge.rowAt(made, 5, sort, least - 1), x -> x.whatIs(5, 0, 0, 0), 0);
            for (int other = 0; other < sort; other++) {
                Supplier<NotInTheCoin> others = Edge.rowAt(made, 5, sort, LEAST[other]);
                Edge.leaves("another sort's least is told", others, x -> x.whatIs(5, 0, 0, 0), 0);
            }
        }
        Edge.leaves("128 is a byte's least", Edge.rowAt(made, 5, Due.BYTES, 128), x -> x.whatIs(5, 0, 0, 0), 255);
        Edge.leaves("32768 is a short's", Edge.rowAt(made, 5, Due.SHORTS, 32768), x -> x.whatIs(5, 0, 0, 0), 255);
        Edge.leaves("127 is not", Edge.rowAt(made, 5, Due.BYTES, 127), x -> x.whatIs(5, 0, 0, 0), 0);
    }

    private static void tastesByNumbers() {
        Supplier<NotInTheCoin> made = Edge.town("p4;g300;g500;g230;g400;");
        int[] walks = {0, 1, 512, 0};
        int[] worths = {-1, 0, 9, 10};
        int[] griefs = {0, 512, 1, 0};
        for (int i = 0; i < 4; i++) {
            Edge.leaves("a walk of " + worths[i], told(made, worths[i]), x -> x.tastes(5, 0), walks[i]);
            int skipped = Integer.MIN_VALUE;
            Edge.leaves("grief of " + worths[i], told(made, skipped, worths[i]), x -> x.tastes(5, 0), griefs[i]);
        }
        int skipped = Integer.MIN_VALUE;
        Edge.leaves("a cheese of 5", told(made, skipped, skipped, 5), x -> x.tastes(5, 0), 3);
        Edge.leaves("a cheese of 9", told(made, skipped, skipped, 9), x -> x.tastes(5, 0), 768);
        Edge.leaves("a cheese of 10", told(made, skipped, skipped, 10), x -> x.tastes(5, 0), 0);
        Supplier<NotInTheCoin> odd = Edge.with(made, x -> x.weeks(1));
        Edge.leaves("a song of 0", told(odd, skipped, skipped, skipped, 0), x -> x.tastes(5, 0), 1);
        Edge.leaves("a song of 1", told(odd, skipped, skipped, skipped, 1), x -> x.tastes(5, 0), 2);
        Edge.leaves("the last is not so", told(made, 4, 5, 7, 9), x -> x.tastes(5, 0), 0);
        Edge.leaves("all are so", told(made, 4, 5, 7, 8), x -> x.tastes(5, 0), 16);
        Edge.leaves("by whose it is does not matter", told(Edge.town("p4;p9;g301;"), 4), x -> x.tastes(5, 0), 16);
    }

    private static void tastesAsManyAsGoods() {
        Edge.leaves("no goods, nothing told", told(Edge.town("p4;")), x -> x.tastes(5, 0), 1023);
        Edge.leaves("no goods, one number", told(Edge.town("p4;"), 2), x -> x.tastes(5, 0), -13);
        Edge.leaves("no goods, one skipped", told(Edge.town("p4;"), Integer.MIN_VALUE), x -> x.tastes(5, 0), -13);
        Edge.leaves("one number", told(Edge.town("p4;g000;"), 2), x -> x.tastes(5, 0), 1023);
        Edge.leaves("two for one", told(Edge.town("p4;g000;"), 2, 2), x -> x.tastes(5, 0), -13);
        Supplier<NotInTheCoin> eight = Edge.town("p4;" + "g000;".repeat(7) + "g300;");
        Edge.leaves("eight", told(eight, 2, 2, 2, 2, 2, 2, 2, 9), x -> x.tastes(5, 0), 512);
        Edge.leaves("nine", told(eight, 2, 2, 2, 2, 2, 2, 2, 9, 2), x -> x.tastes(5, 0), -13);
        Edge.gives("a hundred", told(eight, new int[100]), x -> x.tastes(5, 0), -13);
    }

    private static void tastesArguments() {
        Supplier<NotInTheCoin> rows = Edge.rowsEverywhere(Edge.scene(), Due.BYTES, 6);
        Edge.range("tastes(d, 3)", rows, (x, d) -> x.tastes(d, 3), 0, 7, -1);
        Edge.range("tastes(0, p)", rows, (x, p) -> x.tastes(0, p), 0, 3, -1);
        Edge.leaves("of nothing", Edge.scene(), x -> x.tastes(0, 0), -11);
        Edge.leaves("of a thing", Edge.scene(), x -> x.tastes(1, 0), -12);
        Edge.leaves("-1 ahead of -11", Edge.scene(), x -> x.tastes(0, 4), -1);
        Edge.leaves("-1 ahead of -12", Edge.scene(), x -> x.tastes(1, 4), -1);
        Edge.leaves("-1 ahead of -13", told(Edge.scene(), 1, 2, 3, 4, 5), x -> x.tastes(5, 4), -1);
        Edge.leaves("-13", told(Edge.scene(), 1, 2, 3, 4, 5), x -> x.tastes(5, 3), -13);
    }

    private static void tastesSkipTheLeast() {
        Supplier<NotInTheCoin> made = Edge.town("p4;g300;g500;");
        for (int sort = 0; sort <= 2; sort++) {
            int least = LEAST[sort];
            Edge.leaves("skipped in sort " + sort, Edge.rowAt(made, 5, sort, least), x -> x.tastes(5, 0), 1023);
            Edge.leaves("goods 0 are skipped", Edge.rowAt(made, 5, sort, least, 2), x -> x.tastes(5, 0), 128);
            Edge.leaves("one more is told", Edge.rowAt(made, 5, sort, least + 1), x -> x.tastes(5, 0), 0);
            for (int other = 0; other < sort; other++) {
                Supplier<NotInTheCoin> others = Edge.rowAt(made, 5, sort, LEAST[other]);
                Edge.leaves("another sort's least is told", others, x -> x.tastes(5, 0), 0);
            }
        }
    }

    /** Each has one thing of a worth w to both: to lend it is 3 less half of w. */
    private static void twoByWorth() {
        int[] due = {11, 1, 1, 1, 0, 0, 0, 0, 0, 0};
        for (int figure = 0; figure <= 9; figure++) {
            Supplier<NotInTheCoin> both = Edge.town("p4;p4;g0" + figure + "0;g0" + figure + "1;");
            Edge.leaves("things of figure " + figure, both, x -> x.two(0, 1), due[figure]);
        }
        Edge.leaves("to lend 7 is 0: as good as not", Edge.town("p4;p4;g000;g051;"), x -> x.two(0, 1), 1);
        Edge.leaves("to lend 8 is 1 below 0", Edge.town("p4;p4;g000;g061;"), x -> x.two(0, 1), 10);
        Edge.leaves("the other way", Edge.town("p4;p4;g000;g061;"), x -> x.two(1, 0), 1);
        Edge.leaves("0 to both", Edge.town("p0;p0;g300;g301;"), x -> x.two(0, 1), 11);
        Edge.leaves("the worst of two", Edge.town("p4;p4;g090;g000;g001;g091;"), x -> x.two(0, 1), 11);
    }

    private static void twoArguments() {
        Supplier<NotInTheCoin> all = Edge.town("p4;p4;p4;g000;g001;g002;");
        Edge.range("two(a, 1)", all, (x, a) -> x.two(a, 1), 0, 2, -1);
        Edge.range("two(1, b)", all, (x, b) -> x.two(1, b), 0, 2, -1);
        Supplier<NotInTheCoin> three = Edge.town("p4;p4;p4;p9;g000;g001;g002;");
        Edge.leaves("one twice", three, x -> x.two(0, 0), -1);
        Edge.leaves("one twice, who has nothing", three, x -> x.two(3, 3), -1);
        Edge.leaves("the one has nothing", three, x -> x.two(3, 0), -3);
        Edge.leaves("the other has nothing", three, x -> x.two(0, 3), -3);
        Edge.leaves("both have nothing", Edge.town("p4;p4;"), x -> x.two(0, 1), -3);
        Edge.leaves("-1 ahead of -3", three, x -> x.two(3, 4), -1);
        Edge.leaves("-1 ahead of -3", three, x -> x.two(-1, 3), -1);
    }

    private static void markets(String when, Supplier<NotInTheCoin> made, int t, long above, long below) {
        Edge.leaves(when + ": above", made, x -> x.market(0, 0, t, 0), above);
        Edge.leaves(when + ": below", made, x -> x.market(0, 0, t, 1), below);
    }

    private static void marketByOdds() {
        markets("nobody else", Edge.town("p4;g000;g100;"), 20, 0, 1);
        markets("another one has nothing", Edge.town("p4;p4;g000;g100;"), 20, 0, 1);
        markets("one, 1 in 2", Edge.town("p4;p4;g000;g101;"), 2, 1, 2);
        markets("one, 1 in 20", Edge.town("p4;p4;g000;g101;"), 20, 1, 20);
        markets("one who has two", Edge.town("p4;p4;g000;g101;g101;"), 20, 1, 20);
        String six = "p4;p4;p4;p4;p4;p4;";
        markets("five, 1 in 2", Edge.town(six + "g000;g101;g102;g103;g104;g105;"), 2, 31, 32);
        markets("five, 1 in 3", Edge.town(six + "g000;g101;g102;g103;g104;g105;"), 3, 211, 243);
        markets("five, 1 in 20", Edge.town(six + "g000;g101;g102;g103;g104;g105;"), 20, 723901, 3200000);
        markets("four, one has nothing", Edge.town(six + "g000;g101;g102;g103;g104;"), 2, 15, 16);
        markets("1 less than enough", Edge.town("p4;p4;g110;g041;"), 2, 0, 1);
        markets("as much as is enough", Edge.town("p4;p4;g110;g051;"), 2, 1, 2);
        markets("worth 0 to whose it is", Edge.town("p9;p0;g000;g301;"), 2, 1, 2);
        markets("worth 0 to the one", Edge.town("p0;p9;g000;g301;"), 2, 0, 1);
    }

    private static void marketArguments() {
        Edge.range("market(p, 3, 2, 0)", Edge.scene(), (x, p) -> x.market(p, 3, 2, 0), 0, 3, REFUSED);
        Edge.range("market(0, x, 2, 0)", Edge.scene(), (x, g) -> x.market(0, g, 2, 0), 0, 3, REFUSED);
        Edge.range("market(0, 3, t, 0)", Edge.scene(), (x, t) -> x.market(0, 3, t, 0), 2, 20, REFUSED);
        Edge.range("market(0, 3, t, 1)", Edge.scene(), (x, t) -> x.market(0, 3, t, 1), 2, 20, REFUSED);
        Edge.range("market(0, 3, 2, part)", Edge.scene(), (x, part) -> x.market(0, 3, 2, part), 0, 1, REFUSED);
        Edge.leaves("no goods", Edge.town("p4;"), x -> x.market(0, 0, 2, 0), REFUSED);
    }

    private static void means(String when, Supplier<NotInTheCoin> made, long above, long below) {
        Edge.leaves(when + ": above", made, x -> x.mean(0, 0), above);
        Edge.leaves(when + ": below", made, x -> x.mean(0, 1), below);
    }

    private static void meanOfNone() {
        means("no goods", Edge.town("p4;"), 0, 1);
        means("worth 0", Edge.town("p0;g300;"), 0, 1);
        means("eight worth 0", Edge.town("p0;" + "g300;".repeat(8)), 0, 1);
        means("one", Edge.town("p4;g000;"), 2, 1);
        means("another one's", Edge.town("p4;p9;g301;"), 4, 1);
    }

    private static void meanOfEight() {
        means("8 times 2", Edge.town("p4;" + "g000;".repeat(8)), 2, 1);
        means("17 by 8", Edge.town("p4;" + "g000;".repeat(7) + "g010;"), 17, 8);
        means("18 by 8", Edge.town("p4;" + "g000;".repeat(7) + "g020;"), 9, 4);
        means("20 by 8", Edge.town("p4;" + "g000;".repeat(7) + "g040;"), 5, 2);
        means("24 by 8", Edge.town("p4;" + "g000;".repeat(7) + "g080;"), 3, 1);
        means("1 by 8", Edge.town("p1;g300;" + "g200;".repeat(7) + "w02;"), 1, 8);
        means("8 times the most", Edge.town("p9;" + "g790;".repeat(8)), 19, 1);
        means("by the week it is", Edge.town("p3;g400;g400;g030;w01;"), 5, 1);
    }

    private static void meanArguments() {
        Edge.range("mean(p, 0)", Edge.scene(), (x, p) -> x.mean(p, 0), 0, 3, REFUSED);
        Edge.range("mean(p, 1)", Edge.scene(), (x, p) -> x.mean(p, 1), 0, 3, REFUSED);
        Edge.range("mean(3, part)", Edge.scene(), (x, part) -> x.mean(3, part), 0, 1, REFUSED);
        Edge.leaves("nobody", Edge.fresh(), x -> x.mean(0, 0), REFUSED);
    }

    private static void forgedPlaces() {
        Supplier<NotInTheCoin> made = Edge.town("p4;g040;g100;g030;g110;");
        Edge.leaves("nothing told", told(made), x -> x.forged(5, 0), -4);
        Edge.leaves("one", told(made, 2), x -> x.forged(5, 0), -4);
        Edge.leaves("as much", told(made, 0, 1), x -> x.forged(5, 0), -4);
        Edge.leaves("1 more", told(made, 0, 3), x -> x.forged(5, 0), -4);
        Edge.leaves("1 less", told(made, 1, 2), x -> x.forged(5, 0), 1);
        Edge.leaves("the same", told(made, 1, 1), x -> x.forged(5, 0), 1);
        Edge.leaves("of the same kind", told(made, 1, 3), x -> x.forged(5, 0), 1);
        Edge.leaves("the first of two", told(made, 0, 1, 2, 2), x -> x.forged(5, 0), 2);
        int[] hundred = new int[100];
        for (int i = 0; i < 100; i++) {
            hundred[i] = i % 2;
        }
        Edge.gives("a hundred", told(made, hundred), x -> x.forged(5, 0), -4);
        hundred[99] = 0;
        Edge.gives("the last of a hundred", told(made, hundred), x -> x.forged(5, 0), 99);
    }

    private static void forgedGoods() {
        for (int g : new int[] {-1, 4, Integer.MAX_VALUE, Integer.MIN_VALUE}) {
            Edge.leaves("no goods " + g + " first", told(Edge.scene(), g, 0), x -> x.forged(5, 0), 0);
            Supplier<NotInTheCoin> last = told(Edge.town("p4;g040;g100;g030;g110;"), 0, 1, g);
            Edge.leaves("no goods " + g + " behind two", last, x -> x.forged(5, 0), 2);
        }
        Edge.leaves("the last goods", told(Edge.scene(), 3), x -> x.forged(5, 0), -4);
        Edge.leaves("no goods at all", told(Edge.town("p4;"), 0), x -> x.forged(5, 0), 0);
        for (int sort = 0; sort <= 2; sort++) {
            Supplier<NotInTheCoin> least = Edge.rowAt(Edge.scene(), 5, sort, LEAST[sort]);
            Edge.leaves("the least number of sort " + sort + " is no goods", least, x -> x.forged(5, 0), 0);
        }
    }

    private static void forgedArguments() {
        Supplier<NotInTheCoin> rows = Edge.rowsEverywhere(Edge.scene(), Due.SHORTS, 1);
        Edge.range("forged(d, 3)", rows, (x, d) -> x.forged(d, 3), 0, 7, -1);
        Edge.range("forged(0, p)", rows, (x, p) -> x.forged(0, p), 0, 3, -1);
        Edge.leaves("of nothing", Edge.scene(), x -> x.forged(0, 0), -11);
        Edge.leaves("of a thing", Edge.scene(), x -> x.forged(1, 0), -12);
        Edge.leaves("-1 ahead of -11", Edge.scene(), x -> x.forged(0, 4), -1);
        Edge.leaves("-1 ahead of -12", Edge.scene(), x -> x.forged(1, -1), -1);
    }

    /** A cheese goes round six loans: one is paid 3 weeks on, then one in every six weeks. */
    private static final String RING =
        "p3;p3;p3;p3;p3;p3;g400;g401;g402;g403;g404;g405;g220;l01;l12;l23;l34;l45;l50;";

    private static int[] openInRing() {
        int[] open = new int[100];
        for (int week = 0; week < 100; week++) {
            open[week] = Math.max(0, 6 - (week + 3) / 6);
        }
        return open;
    }

    private static void judgedWeeks() {
        Edge.gives("as it is", told(Edge.town(RING), openInRing()), x -> x.judge(5), -4);
        for (int place : new int[] {0, 1, 2, 3, 32, 33, 59, 60, 61, 98, 99}) {
            for (int odd = -1; odd <= 1; odd += 2) {
                int[] told = openInRing();
                told[place] += odd;
                Edge.gives("not so behind " + place, told(Edge.town(RING), told), x -> x.judge(5), place);
            }
        }
        Edge.leaves("nothing told", told(Edge.town(RING)), x -> x.judge(5), -4);
        Edge.leaves("now", told(Edge.town(RING), 6), x -> x.judge(5), -4);
        Edge.leaves("only in mind", told(Edge.town(RING), 6, 6, 6, 5, 5), x -> x.judge(5), -4);
        Edge.leaves("the first of two", told(Edge.town(RING), 6, 6, 5, 4), x -> x.judge(5), 2);
        Edge.leaves("nobody", told(Edge.fresh(), 0, 0), x -> x.judge(5), -4);
        Edge.leaves("nobody", told(Edge.fresh(), 0, 1), x -> x.judge(5), 1);
    }

    private static void judgedBeyond999() {
        Supplier<NotInTheCoin> week999 = Edge.weeksOn(Edge.town("p3;p3;g400;g031;"), 999);
        Supplier<NotInTheCoin> lent = Edge.with(week999, x -> x.lends(0, 1));
        Edge.leaves("even weeks behind 999", told(lent, 1, 1, 0, 0), x -> x.judge(5), -4);
        Edge.leaves("even weeks behind 999", told(lent, 1, 0, 0), x -> x.judge(5), 1);
    }

    private static void judgedSkipsTheLeast() {
        for (int sort = 0; sort <= 2; sort++) {
            int least = LEAST[sort];
            Supplier<NotInTheCoin> skipped = Edge.rowAt(Edge.town(RING), 5, sort, least, 6, least, 5);
            Edge.leaves("skipped in sort " + sort, skipped, x -> x.judge(5), -4);
            Supplier<NotInTheCoin> behind = Edge.rowAt(Edge.town(RING), 5, sort, least, least, least, 6);
            Edge.leaves("a week is one all the same", behind, x -> x.judge(5), 3);
            Supplier<NotInTheCoin> more = Edge.rowAt(Edge.town(RING), 5, sort, 6, least + 1);
            Edge.leaves("one more is told", more, x -> x.judge(5), 1);
            for (int other = 0; other < sort; other++) {
                Supplier<NotInTheCoin> others = Edge.rowAt(Edge.town(RING), 5, sort, LEAST[other]);
                Edge.leaves("another sort's least is told", others, x -> x.judge(5), 0);
            }
        }
    }

    private static void judgeArguments() {
        Supplier<NotInTheCoin> rows = Edge.rowsEverywhere(Edge.scene(), Due.BYTES, 1);
        Edge.range("judge(d)", rows, (x, d) -> x.judge(d), 0, 7, -1);
        Edge.leaves("of nothing", Edge.scene(), x -> x.judge(0), -11);
        Edge.leaves("of a thing", Edge.scene(), x -> x.judge(1), -12);
    }

    /** By one draw who of two has a walk, then by two draws their tastes: what it is worth to whose it is. */
    private static void townsBySeeds() {
        int[] seeds = {0, 1, -1, Integer.MAX_VALUE, Integer.MIN_VALUE, 65535, 65536};
        int[] worths = {8, 8, 2, 2, 8, 0, 9};
        for (int i = 0; i < seeds.length; i++) {
            int seed = seeds[i];
            Edge.leaves("seed " + seed, Edge.town("p7;p7;g300;"), x -> x.towns(1, seed, 1), worths[i]);
        }
        Edge.leaves("walk and grief, by seed 1", Edge.town("p7;p7;g300;g500;"), x -> x.towns(1, 1, 0), 1);
        Edge.leaves("walk and grief, by seed 1", Edge.town("p7;p7;g300;g500;"), x -> x.towns(1, 1, 1), 9);
    }

    private static void townsOneBehindTheOther() {
        Supplier<NotInTheCoin> made = Edge.town("p7;p7;g300;");
        Edge.leaves("one", made, x -> x.towns(1, 1, 1), 8);
        Edge.leaves("two: z goes on", made, x -> x.towns(2, 1, 1), 8 + 7);
        Edge.leaves("each call from its own seed", Edge.with(made, x -> x.towns(5, 1, 1)), x -> x.towns(1, 1, 1), 8);
        for (int n = 1; n <= 20; n++) {
            int towns = n;
            NotInTheCoin x = made.get();
            long signed = x.towns(towns, 5 + Integer.MIN_VALUE, 1);
            Due.due("the sign's bit does not matter in " + n + " towns", signed, x.towns(towns, 5, 1));
        }
    }

    /** Whatever was in mind ahead of it, a town is drawn from what there is now. */
    private static void townsFromNow() {
        Supplier<NotInTheCoin> cheese = Edge.town("p7;p7;g240;");
        Edge.leaves("a cheese by taste 8", cheese, x -> x.towns(1, 1, 1), 10);
        Edge.leaves("weeks in mind", Edge.with(cheese, x -> x.openThen(1)), x -> x.towns(1, 1, 1), 10);
        Edge.leaves("a week", Edge.with(cheese, x -> x.weeks(1)), x -> x.towns(1, 1, 1), 9);
        Supplier<NotInTheCoin> text = Edge.with(cheese, x -> Due.due("w02;s08;", Due.tell(x, "w02;s08;"), -2004));
        Edge.leaves("a text on trial", text, x -> x.towns(1, 1, 1), 10);
        Supplier<NotInTheCoin> silvers = Edge.with(Edge.thingsEverywhere(Edge.town("p7;"), 1, 0), x -> {
            for (int g = 0; g < 8; g++) {
                x.brings(g, 0);
            }
        });
        Edge.leaves("goods that came since", silvers, x -> x.towns(20, 1, 1), 960);
    }

    private static void townsOfFew() {
        Edge.leaves("one, by a draw below 1, then a draw below 10", Edge.town("p7;g300;"), x -> x.towns(1, 1, 1), 8);
        Edge.leaves("one has no quarrels", Edge.town("p7;g300;g500;"), x -> x.towns(20, 1, 0), 0);
        Edge.leaves("no goods have none", Edge.town("p7;p7;"), x -> x.towns(20, 1, 0), 0);
        Edge.leaves("no goods have no worth", Edge.town("p7;p7;"), x -> x.towns(20, 1, 1), 0);
        Edge.leaves("silvers, all of 6", Edge.town("p7;" + "g100;".repeat(8)), x -> x.towns(20, 1, 1), 960);
    }

    private static void townsArguments() {
        for (int what = 0; what <= 1; what++) {
            int asked = what;
            Edge.range("towns(n, 1, " + what + ")", Edge.scene(), (x, n) -> x.towns(n, 1, asked), 1, 20, -1);
            Edge.leaves("nobody", Edge.fresh(), x -> x.towns(1, 1, asked), -3);
            Edge.leaves("nobody, 20 towns", Edge.fresh(), x -> x.towns(20, 1, asked), -3);
            Edge.leaves("-1 ahead of -3", Edge.fresh(), x -> x.towns(0, 1, asked), -1);
            Edge.leaves("-1 ahead of -3", Edge.fresh(), x -> x.towns(21, 1, asked), -1);
            Edge.leaves("only in mind", Edge.full(), x -> Math.min(0, x.towns(20, 7, asked)), 0);
        }
        Edge.range("towns(1, 1, what)", Edge.scene(), (x, what) -> x.towns(1, 1, what), 0, 1, -1);
        Edge.leaves("-1 ahead of -3", Edge.fresh(), x -> x.towns(1, 1, 2), -1);
        Edge.leaves("-1 ahead of -3", Edge.fresh(), x -> x.towns(1, 1, -1), -1);
    }
}
