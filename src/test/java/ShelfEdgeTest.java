import java.util.function.Supplier;

/** The edges of promises 36 to 45: the image, what is told, shelves; and of the 512 calls. */
public final class ShelfEdgeTest {
    private ShelfEdgeTest() {
    }

    public static void main(String[] args) {
        imageOfTheFirstAndTheLastWeek();
        imageOfNothingAndOfAll();
        imageThatIsRefused();
        imageStaysBehindRefusals();
        countArguments();
        countOfNoneAndOfAll();
        keepArguments();
        keepNothing();
        keepInPlaceOf();
        rowSizes();
        rowArguments();
        rowIsZeroAtFirst();
        putPlaces();
        putArguments();
        putKeepsLowestBits();
        elementPlaces();
        elementRefusals();
        copyPlaces();
        copyOfNoneAndOfAll();
        copySortsAndShelves();
        copyRefusalsInOrder();
        costOfFigures();
        costArguments();
        tossOfFigures();
        tossArguments();
        fiveHundredAndTwelveCalls();
        Due.end();
    }

    private static Supplier<NotInTheCoin> imaged(Supplier<NotInTheCoin> made) {
        return Edge.with(made, NotInTheCoin::image);
    }

    private static void imageOfTheFirstAndTheLastWeek() {
        Edge.gives("image in week 0", Edge.fresh(), NotInTheCoin::image, 0);
        Edge.gives("image in week 999", Edge.weeksOn(Edge.fresh(), 999), NotInTheCoin::image, 999);
        Supplier<NotInTheCoin> last = Edge.weeksOn(imaged(Edge.weeksOn(Edge.fresh(), 998)), 1);
        Edge.gives("from week 999 to 998", last, NotInTheCoin::restore, 998);
        Edge.gives("there is a week again", Edge.with(last, NotInTheCoin::restore), x -> x.weeks(1), 0);
        Supplier<NotInTheCoin> first = Edge.weeksOn(imaged(Edge.fresh()), 999);
        Edge.gives("from week 999 to 0", first, x -> x.restore() + x.count(4), 0);
    }

    private static void imageOfNothingAndOfAll() {
        Supplier<NotInTheCoin> nothing = Edge.with(imaged(Edge.fresh()), x -> {
            Due.tell(x, "p4;p5;g000;l01;s07;w01;");
            Due.due("restore()", x.restore(), 0);
        });
        int[] counts = {0, 0, 0, 0, 0, 8, 0};
        for (int what = 0; what < counts.length; what++) {
            int asked = what;
            Edge.gives("nothing again: count(" + what + ")", nothing, x -> x.count(asked), counts[what]);
        }
        Edge.gives("the first comes again", nothing, x -> x.comes(5), 0);
        Supplier<NotInTheCoin> full = Edge.with(imaged(Edge.full()), NotInTheCoin::restore);
        Edge.leaves("no room as then", full, x -> x.comes(5), -2);
        Edge.leaves("no room as then", full, x -> x.lends(0, 0), -2);
        Edge.leaves("restored at once, all is as it is", imaged(Edge.scene()), NotInTheCoin::restore, 5);
        Edge.leaves("restored twice", Edge.with(imaged(Edge.scene()), NotInTheCoin::restore), NotInTheCoin::restore, 5);
    }

    private static void imageThatIsRefused() {
        Edge.leaves("there is none", Edge.fresh(), NotInTheCoin::restore, -3);
        Edge.leaves("there is none", Edge.full(), NotInTheCoin::restore, -3);
        Edge.gives("there is one", imaged(Edge.fresh()), NotInTheCoin::restore, 0);
    }

    private static void imageStaysBehindRefusals() {
        Supplier<NotInTheCoin> changed = Edge.with(Edge.scene(), x -> {
            x.comes(10);
            x.sames(8, 0);
            x.weeks(61);
            x.pays(0, 0);
            x.lends(0, 1);
            x.good(9, 9);
        });
        Edge.gives("the image of week 0", changed, NotInTheCoin::restore, 0);
        Edge.gives("the image of three", changed, x -> x.restore() + x.count(1), 3);
    }

    private static void countArguments() {
        Edge.range("count(what)", Edge.scene(), (x, what) -> x.count(what), 0, 6, -1);
        Edge.range("new: count(what)", Edge.fresh(), (x, what) -> x.count(what), 0, 6, -1);
    }

    private static void countOfNoneAndOfAll() {
        int[] counts = {8, 6, 8, 255, 0, 8};
        for (int what = 0; what < counts.length; what++) {
            int asked = what;
            Edge.leaves("full: count(" + what + ")", Edge.full(), x -> x.count(asked), counts[what]);
        }
        Edge.leaves("none open", Edge.with(Edge.town("p4;p4;g000;g101;l01;"), x -> x.pays(0, 1)), x -> x.count(3), 0);
        Edge.leaves("what they have is worth 0", Edge.town("p0;p9;g300;g501;"), x -> x.count(6), 0);
        Edge.leaves("to themselves", Edge.town("p0;p9;g301;g500;"), x -> x.count(6), 18);
        Edge.leaves("by the week it is", Edge.town("p0;g200;g290;w02;"), x -> x.count(6), 9);
    }

    private static void keepArguments() {
        Edge.range("keep(d, 0, 0, 0)", Edge.scene(), (x, d) -> x.keep(d, 0, 0, 0), 0, 7, -1);
        Edge.range("keep(d, 1, 7, 9)", Edge.scene(), (x, d) -> x.keep(d, 1, 7, 9), 0, 7, -1);
        Edge.range("keep(1, what, 0, 0)", Edge.scene(), (x, what) -> x.keep(1, what, 0, 0), 0, 1, -1);
        Edge.range("keep(1, 1, k, 0)", Edge.scene(), (x, k) -> x.keep(1, 1, k, 0), 0, 7, -1);
        Edge.range("keep(2, 1, 0, figure)", Edge.scene(), (x, figure) -> x.keep(2, 1, 0, figure), 0, 9, -1);
        Edge.range("keep(1, 1, 7, figure)", Edge.scene(), (x, figure) -> x.keep(1, 1, 7, figure), 0, 9, -1);
    }

    private static void keepNothing() {
        int[] odd = {-1, 8, 10, Integer.MIN_VALUE, Integer.MAX_VALUE};
        for (int k : odd) {
            for (int figure : odd) {
                Edge.gives("nothing, the others do not matter", Edge.scene(), x -> x.keep(1, 0, k, figure), 0);
                Supplier<NotInTheCoin> nothing = Edge.with(Edge.scene(), x -> x.keep(1, 0, k, figure));
                Edge.gives("nothing is held", nothing, x -> x.cost(1), -11);
            }
        }
        Edge.leaves("nothing in place of nothing", Edge.scene(), x -> x.keep(0, 0, 0, 0), 0);
        Edge.leaves("no such shelf", Edge.scene(), x -> x.keep(8, 0, 0, 0), -1);
    }

    private static void keepInPlaceOf() {
        for (int d = 0; d <= 4; d++) {
            int shelf = d;
            Supplier<NotInTheCoin> thing = Edge.with(Edge.scene(), x -> x.keep(shelf, 1, 1, 9));
            Edge.gives("a silver on shelf " + d, thing, x -> x.cost(shelf), 11);
            Edge.gives("no row on shelf " + d, thing, x -> x.put(shelf, 0, 0), -12);
            Supplier<NotInTheCoin> nothing = Edge.with(Edge.scene(), x -> x.keep(shelf, 0, 0, 0));
            Edge.gives("nothing on shelf " + d, nothing, x -> x.put(shelf, 0, 0), -11);
        }
        Supplier<NotInTheCoin> again = Edge.with(Edge.scene(), x -> {
            x.keep(2, 0, 0, 0);
            x.row(2, 0, 3);
        });
        Edge.gives("a row that comes back is a new one", again, x -> x.element(2, 0), 0);
    }

    private static void rowSizes() {
        for (int sort = 0; sort <= 2; sort++) {
            int asked = sort;
            Edge.gives("no elements", Edge.scene(), x -> x.row(2, asked, 0), 0);
            Edge.gives("a hundred", Edge.scene(), x -> x.row(2, asked, 100), 0);
            Edge.leaves("a hundred and one", Edge.scene(), x -> x.row(2, asked, 101), -1);
            Edge.leaves("the most", Edge.scene(), x -> x.row(2, asked, Integer.MAX_VALUE), -1);
            Edge.leaves("1 below 0", Edge.scene(), x -> x.row(2, asked, -1), -14);
            Edge.leaves("the least", Edge.scene(), x -> x.row(2, asked, Integer.MIN_VALUE), -14);
            Edge.leaves("1 below 0 where nothing is", Edge.scene(), x -> x.row(0, asked, -1), -14);
            Edge.leaves("101 where a thing is", Edge.scene(), x -> x.row(1, asked, 101), -1);
        }
    }

    private static void rowArguments() {
        Edge.range("row(d, 0, 0)", Edge.scene(), (x, d) -> x.row(d, 0, 0), 0, 7, -1);
        Edge.range("row(d, 2, 100)", Edge.scene(), (x, d) -> x.row(d, 2, 100), 0, 7, -1);
        Edge.range("row(1, sort, 5)", Edge.scene(), (x, sort) -> x.row(1, sort, 5), 0, 2, -1);
        Edge.range("row(2, sort, 5)", Edge.scene(), (x, sort) -> x.row(2, sort, 5), 0, 2, -1);
        Edge.leaves("-1 ahead of -14", Edge.scene(), x -> x.row(8, 0, -1), -1);
        Edge.leaves("-1 ahead of -14", Edge.scene(), x -> x.row(-1, 0, -1), -1);
        Edge.leaves("-1 ahead of -14", Edge.scene(), x -> x.row(0, 3, -1), -1);
        Edge.leaves("-1 ahead of -14", Edge.scene(), x -> x.row(0, -1, -1), -1);
    }

    private static void rowIsZeroAtFirst() {
        for (int sort = 0; sort <= 2; sort++) {
            int asked = sort;
            Supplier<NotInTheCoin> hundred = Edge.with(Edge.fresh(), x -> x.row(3, asked, 100));
            for (int i = 0; i < 100; i++) {
                int place = i;
                Edge.gives("element(3, " + i + ")", hundred, x -> x.element(3, place), 0);
            }
            Supplier<NotInTheCoin> anew = Edge.with(Edge.fresh(), x -> {
                Due.fillRow(x, 3, 2, 7, 8, 9);
                x.row(3, asked, 1);
                x.row(3, asked, 3);
            });
            for (int i = 0; i < 3; i++) {
                int place = i;
                Edge.gives("made anew: element(3, " + i + ")", anew, x -> x.element(3, place), 0);
            }
        }
    }

    private static Supplier<NotInTheCoin> emptyRow(int size) {
        return Edge.with(Edge.fresh(), x -> x.row(3, Due.INTS, size));
    }

    private static void putPlaces() {
        Edge.leaves("no places", emptyRow(0), x -> x.put(3, 0, 1), -13);
        Edge.leaves("no places", emptyRow(0), x -> x.put(3, -1, 1), -13);
        Edge.range("put(3, i, 1) of 1", emptyRow(1), (x, i) -> x.put(3, i, 1), 0, 0, -13);
        Edge.range("put(3, i, 1) of 99", emptyRow(99), (x, i) -> x.put(3, i, 1), 0, 98, -13);
        Edge.range("put(3, i, 1) of 100", emptyRow(100), (x, i) -> x.put(3, i, 1), 0, 99, -13);
        Edge.gives("there", Edge.with(emptyRow(100), x -> x.put(3, 99, 5)), x -> x.element(3, 99), 5);
        Edge.gives("only there", Edge.with(emptyRow(100), x -> x.put(3, 99, 5)), x -> x.element(3, 98), 0);
        Supplier<NotInTheCoin> shorter = Edge.with(emptyRow(100), x -> x.row(3, Due.INTS, 2));
        Edge.range("a shorter row", shorter, (x, i) -> x.put(3, i, 1), 0, 1, -13);
    }

    private static void putArguments() {
        Supplier<NotInTheCoin> rows = Edge.rowsEverywhere(Edge.fresh(), Due.BYTES, 1, 2);
        Edge.range("put(d, 1, 1)", rows, (x, d) -> x.put(d, 1, 1), 0, 7, -1);
        Edge.leaves("of nothing", Edge.scene(), x -> x.put(0, 0, 1), -11);
        Edge.leaves("of a thing", Edge.scene(), x -> x.put(1, 0, 1), -12);
        Edge.leaves("-1 ahead of -13", Edge.scene(), x -> x.put(8, -1, 1), -1);
        Edge.leaves("-11 ahead of -13", Edge.scene(), x -> x.put(0, -1, 1), -11);
        Edge.leaves("-12 ahead of -13", Edge.scene(), x -> x.put(1, -1, 1), -12);
    }

    private static void keeps(int sort, int told, long kept) {
        Edge.gives("put answers 0", Edge.with(Edge.fresh(), x -> x.row(3, sort, 1)), x -> x.put(3, 0, told), 0);
        Supplier<NotInTheCoin> row = Edge.rowAt(Edge.fresh(), 3, sort, told);
        Edge.gives("sort " + sort + " keeps of " + told, row, x -> x.element(3, 0), kept);
    }

    private static void putKeepsLowestBits() {
        int[] bytes = {127, 128, 129, 255, 256, 257, -128, -129, -256, -257};
        int[] keptBytes = {127, -128, -127, -1, 0, 1, -128, 127, 0, -1};
        for (int i = 0; i < bytes.length; i++) {
            keeps(Due.BYTES, bytes[i], keptBytes[i]);
            keeps(Due.SHORTS, bytes[i], bytes[i]);
            keeps(Due.INTS, bytes[i], bytes[i]);
        }
        int[] shorts = {32767, 32768, 32769, 65535, 65536, 65537, -32768, -32769, -65536, -65537};
        int[] keptShorts = {32767, -32768, -32767, -1, 0, 1, -32768, 32767, 0, -1};
        for (int i = 0; i < shorts.length; i++) {
            keeps(Due.SHORTS, shorts[i], keptShorts[i]);
            keeps(Due.INTS, shorts[i], shorts[i]);
        }
        keeps(Due.BYTES, Integer.MAX_VALUE, -1);
        keeps(Due.SHORTS, Integer.MAX_VALUE, -1);
        keeps(Due.INTS, Integer.MAX_VALUE, Integer.MAX_VALUE);
        keeps(Due.BYTES, Integer.MIN_VALUE, 0);
        keeps(Due.SHORTS, Integer.MIN_VALUE, 0);
        keeps(Due.INTS, Integer.MIN_VALUE, Integer.MIN_VALUE);
    }

    private static void elementPlaces() {
        Edge.range("element(3, i) of 1", emptyRow(1), (x, i) -> Due.elementOr(x, 3, i), 0, 0, -2);
        Edge.range("element(3, i) of 99", emptyRow(99), (x, i) -> Due.elementOr(x, 3, i), 0, 98, -2);
        Edge.range("element(3, i) of 100", emptyRow(100), (x, i) -> Due.elementOr(x, 3, i), 0, 99, -2);
        Edge.leaves("no places", emptyRow(0), x -> Due.elementOr(x, 3, 0), -2);
    }

    private static void elementRefusals() {
        Supplier<NotInTheCoin> rows = Edge.rowsEverywhere(Edge.fresh(), Due.SHORTS, 1, 2);
        Edge.range("element(d, 1)", rows, (x, d) -> Due.elementOr(x, d, 1), 0, 7, -1);
        Edge.leaves("of nothing", Edge.scene(), x -> Due.elementOr(x, 0, 0), -2);
        Edge.leaves("of a thing", Edge.scene(), x -> Due.elementOr(x, 1, 0), -2);
        Edge.leaves("no such shelf, no such place", Edge.scene(), x -> Due.elementOr(x, 8, -1), -1);
        Edge.leaves("no such shelf, no such place", Edge.scene(), x -> Due.elementOr(x, -1, 100), -1);
    }

    /** Shorts on all shelves but 5 and 6: 3 elements on shelf 1, 4 on the others. */
    private static Supplier<NotInTheCoin> rows() {
        return Edge.with(Edge.rowsEverywhere(Edge.fresh(), Due.SHORTS, 1, 2, 3, 4), x -> {
            Due.fillRow(x, 1, Due.SHORTS, 7, 8, 9);
            x.keep(5, 1, 0, 0);
            x.keep(6, 0, 0, 0);
        });
    }

    private static void copyPlaces() {
        Edge.range("copy(0, i, 1, 0, 1)", rows(), (x, i) -> x.copy(0, i, 1, 0, 1), 0, 3, -13);
        Edge.range("copy(0, i, 1, 0, 3)", rows(), (x, i) -> x.copy(0, i, 1, 0, 3), 0, 1, -13);
        Edge.range("copy(0, 0, 1, j, 1)", rows(), (x, j) -> x.copy(0, 0, 1, j, 1), 0, 2, -13);
        Edge.range("copy(0, 0, 1, j, 2)", rows(), (x, j) -> x.copy(0, 0, 1, j, 2), 0, 1, -13);
        Edge.range("copy(0, 0, 1, 0, n)", rows(), (x, n) -> x.copy(0, 0, 1, 0, n), 0, 3, -13);
        Edge.range("copy(1, 0, 0, 0, n)", rows(), (x, n) -> x.copy(1, 0, 0, 0, n), 0, 3, -13);
        Edge.range("copy(1, 1, 0, 2, n)", rows(), (x, n) -> x.copy(1, 1, 0, 2, n), 0, 2, -13);
        Edge.leaves("what would come behind the most", rows(),
            x -> x.copy(0, Integer.MAX_VALUE, 1, Integer.MAX_VALUE, Integer.MAX_VALUE), -13);
        Edge.leaves("not even a part comes", rows(), x -> x.copy(0, 0, 1, 2, 2), -13);
    }

    private static void copyOfNoneAndOfAll() {
        Edge.leaves("none", rows(), x -> x.copy(0, 0, 1, 0, 0), 0);
        Edge.leaves("none, just behind the last", rows(), x -> x.copy(0, 4, 1, 3, 0), 0);
        Edge.leaves("none, farther off", rows(), x -> x.copy(0, 5, 1, 3, 0), -13);
        Edge.leaves("none, farther off", rows(), x -> x.copy(0, 4, 1, 4, 0), -13);
        Edge.leaves("all to itself", rows(), x -> x.copy(0, 0, 0, 0, 4), 4);
        Edge.gives("all", Edge.with(rows(), x -> x.copy(1, 0, 0, 1, 3)), x -> x.element(0, 3), 9);
        Edge.gives("not the one ahead", Edge.with(rows(), x -> x.copy(1, 0, 0, 1, 3)), x -> x.element(0, 0), 1);
        Edge.gives("not the one behind", Edge.with(rows(), x -> x.copy(1, 0, 0, 0, 3)), x -> x.element(0, 3), 4);
        Edge.gives("on over itself", Edge.with(rows(), x -> x.copy(0, 0, 0, 1, 3)), x -> x.element(0, 3), 3);
        Edge.gives("back over itself", Edge.with(rows(), x -> x.copy(0, 1, 0, 0, 3)), x -> x.element(0, 0), 2);
        Supplier<NotInTheCoin> empty = Edge.with(rows(), x -> x.row(2, Due.SHORTS, 0));
        Edge.range("copy(2, 0, 1, 0, n)", empty, (x, n) -> x.copy(2, 0, 1, 0, n), 0, 0, -13);
        Edge.range("copy(1, 0, 2, 0, n)", empty, (x, n) -> x.copy(1, 0, 2, 0, n), 0, 0, -13);
        Supplier<NotInTheCoin> hundred = Edge.with(emptyRow(100), x -> x.row(4, Due.INTS, 100));
        Edge.gives("a hundred", hundred, x -> x.copy(3, 0, 4, 0, 100), 100);
        Edge.gives("a hundred and one", hundred, x -> x.copy(3, 0, 4, 0, 101), -13);
    }

    private static void copySortsAndShelves() {
        Supplier<NotInTheCoin> everywhere = Edge.rowsEverywhere(Edge.fresh(), Due.BYTES, 1, 2);
        Edge.range("copy(d, 0, 0, 0, 1)", everywhere, (x, d) -> x.copy(d, 0, 0, 0, 1), 0, 7, -1);
        Edge.range("copy(0, 0, e, 0, 1)", everywhere, (x, e) -> x.copy(0, 0, e, 0, 1), 0, 7, -1);
        for (int from = 0; from <= 2; from++) {
            for (int to = 0; to <= 2; to++) {
                int sort = to;
                Supplier<NotInTheCoin> two = Edge.with(Edge.rowAt(Edge.fresh(), 0, from, 5, 6), x -> x.row(1, sort, 2));
                if (from == to) {
                    Edge.gives("of one sort", two, x -> x.copy(0, 0, 1, 0, 2), 2);
                } else {
                    Edge.leaves("of two sorts", two, x -> x.copy(0, 0, 1, 0, 2), -12);
                    Edge.leaves("none, of two sorts", two, x -> x.copy(0, 0, 1, 0, 0), -12);
                }
            }
        }
    }

    private static void copyRefusalsInOrder() {
        Edge.leaves("from nothing", rows(), x -> x.copy(6, 0, 0, 0, 1), -11);
        Edge.leaves("to nothing", rows(), x -> x.copy(0, 0, 6, 0, 1), -11);
        Edge.leaves("from a thing", rows(), x -> x.copy(5, 0, 0, 0, 1), -12);
        Edge.leaves("to a thing", rows(), x -> x.copy(0, 0, 5, 0, 1), -12);
        Edge.leaves("-1 ahead of -11", rows(), x -> x.copy(6, 0, 8, 0, 1), -1);
        Edge.leaves("-1 ahead of -11", rows(), x -> x.copy(-1, 0, 6, 0, 1), -1);
        Edge.leaves("-1 ahead of -12", rows(), x -> x.copy(5, 0, 8, 0, 1), -1);
        Edge.leaves("-1 ahead of -13", rows(), x -> x.copy(0, -1, 8, 0, 1), -1);
        Edge.leaves("-11 ahead of -12", rows(), x -> x.copy(5, 0, 6, 0, 1), -11);
        Edge.leaves("-11 ahead of -12", rows(), x -> x.copy(6, 0, 5, 0, 1), -11);
        Edge.leaves("-11 ahead of -13", rows(), x -> x.copy(6, 0, 0, 0, -1), -11);
        Edge.leaves("-12 ahead of -13", rows(), x -> x.copy(0, 0, 5, 0, -1), -12);
        Supplier<NotInTheCoin> ints = Edge.with(rows(), x -> x.row(2, Due.INTS, 4));
        Edge.leaves("-12 of two sorts ahead of -13", ints, x -> x.copy(0, 9, 2, 0, 1), -12);
    }

    private static Supplier<NotInTheCoin> kept(int kind, int figure) {
        return Edge.with(Edge.scene(), x -> x.keep(7, 1, kind, figure));
    }

    private static void costOfFigures() {
        int[] ofFigure0 = {2, 2, 6, 1, 6, 0, 3, 3};
        int[] ofFigure1 = {2, 3, 6, 1, 6, 0, 3, 4};
        int[] ofFigure9 = {2, 11, 6, 1, 6, 0, 3, 12};
        for (int kind = 0; kind < 8; kind++) {
            Edge.leaves("cost of kind " + kind + ", figure 0", kept(kind, 0), x -> x.cost(7), ofFigure0[kind]);
            Edge.leaves("cost of kind " + kind + ", figure 1", kept(kind, 1), x -> x.cost(7), ofFigure1[kind]);
            Edge.leaves("cost of kind " + kind + ", figure 9", kept(kind, 9), x -> x.cost(7), ofFigure9[kind]);
        }
    }

    private static void costArguments() {
        Supplier<NotInTheCoin> things = Edge.thingsEverywhere(Edge.scene(), 0, 1);
        Edge.range("cost(d)", things, (x, d) -> x.cost(d), 0, 7, -1);
        Edge.leaves("of nothing", Edge.scene(), x -> x.cost(0), -11);
        Edge.leaves("of bytes", Edge.scene(), x -> x.cost(2), -12);
        Edge.leaves("of shorts", Edge.scene(), x -> x.cost(3), -12);
        Edge.leaves("of ints", Edge.scene(), x -> x.cost(4), -12);
        Edge.leaves("of an empty row", Edge.rowAt(Edge.scene(), 5, Due.BYTES), x -> x.cost(5), -12);
    }

    private static void tossOfFigures() {
        int[] ofFigure1 = {1, 1, 101, -15, -15, 1, 101, 204};
        int[] ofFigure9 = {9, 9, 109, -15, -15, 9, 109, 212};
        for (int kind = 0; kind < 8; kind++) {
            Edge.leaves("failure of kind " + kind + ", figure 0", kept(kind, 0), x -> x.toss(7), -15);
            Edge.leaves("failure of kind " + kind + ", figure 1", kept(kind, 1), x -> x.toss(7), ofFigure1[kind]);
            Edge.leaves("failure of kind " + kind + ", figure 9", kept(kind, 9), x -> x.toss(7), ofFigure9[kind]);
        }
    }

    private static void tossArguments() {
        Supplier<NotInTheCoin> things = Edge.thingsEverywhere(Edge.scene(), 0, 1);
        Edge.range("toss(d)", things, (x, d) -> x.toss(d), 0, 7, -1);
        Edge.leaves("of nothing", Edge.scene(), x -> x.toss(0), -11);
        Edge.leaves("of bytes", Edge.scene(), x -> x.toss(2), -12);
        Edge.leaves("of shorts", Edge.scene(), x -> x.toss(3), -12);
        Edge.leaves("of ints", Edge.scene(), x -> x.toss(4), -12);
        Edge.leaves("of an empty row", Edge.rowAt(Edge.scene(), 5, Due.BYTES), x -> x.toss(5), -12);
    }

    private static void fiveHundredAndTwelveCalls() {
        NotInTheCoin x = new NotInTheCoin();
        for (int week = 1; week <= 511; week++) {
            Due.due("weeks(1)", x.weeks(1), 0);
        }
        Due.due("the 512th call", x.count(4), 511);
    }
}
