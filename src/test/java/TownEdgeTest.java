import java.util.function.Supplier;

/** The edges of promises 1 to 11: the town as told. */
public final class TownEdgeTest {
    private static final String EIGHT_GOODS = "g040;g140;g240;g340;g441;g541;g641;g741;";
    private static final String EIGHT_LOANS = "l01;l00;l01;l00;l01;l00;l01;l00;";

    private TownEdgeTest() {
    }

    public static void main(String[] args) {
        aNewObjectHasNothing();
        aNewObjectHasEachKindInAClassOfItsOwn();
        objectsShareNothing();
        townShelves();
        townOneStatementAtLeast();
        townOfAHundredBytes();
        townBytesThatCanNotGoOn();
        townCutOff();
        townFormAheadOfStatements();
        townPeople();
        townGoods();
        townLoans();
        townLists();
        townWeeks();
        townWeekAbove999();
        townStatementsOneBehindTheOther();
        townTheFirstFaultIsTold();
        goodArguments();
        personArguments();
        loanArguments();
        comesTastes();
        comesRoom();
        bringsArguments();
        bringsRoom();
        bringsRefusalsInOrder();
        lendsArguments();
        lendsRoom();
        lendsRefusalsInOrder();
        paysArguments();
        paysWhatIsNotOpen();
        paysWhatCanNotPay();
        samesArguments();
        weeksArguments();
        weeksAbove999();
        aWeekPaysByWhatIsEnough();
        aWeekPaysByWhatIsWorthLeast();
        aWeekPaysByTheFirstAndTheLastGoods();
        aWeekGoesByNumbers();
        Due.end();
    }

    private static void aNewObjectHasNothing() {
        int[] counts = {0, 0, 0, 0, 0, 8, 0};
        for (int what = 0; what < counts.length; what++) {
            int asked = what;
            Edge.gives("new: count(" + what + ")", Edge.fresh(), x -> x.count(asked), counts[what]);
        }
        for (int what = 0; what <= 3; what++) {
            int asked = what;
            Edge.leaves("new: good(0, " + what + ")", Edge.fresh(), x -> x.good(0, asked), -1);
            Edge.leaves("new: person(0, " + what + ")", Edge.fresh(), x -> x.person(0, asked), -1);
            Edge.leaves("new: loan(0, " + what + ")", Edge.fresh(), x -> x.loan(0, asked), -1);
        }
        for (int d = 0; d < 8; d++) {
            int shelf = d;
            Edge.leaves("new: cost(" + d + ")", Edge.fresh(), x -> x.cost(shelf), -11);
            Edge.leaves("new: put(" + d + ", 0, 0)", Edge.fresh(), x -> x.put(shelf, 0, 0), -11);
        }
        Edge.leaves("new: restore()", Edge.fresh(), NotInTheCoin::restore, -3);
    }

    private static void aNewObjectHasEachKindInAClassOfItsOwn() {
        for (int k = 0; k < 8; k++) {
            int kind = k;
            Edge.gives("class of kind " + k, Edge.town("p4;g" + k + "00;"), x -> x.good(0, 3), k);
            Edge.gives("class of kind " + k, Edge.fresh(), x -> x.sames((kind + 1) % 8, kind), k);
        }
    }

    private static void objectsShareNothing() {
        NotInTheCoin one = Edge.full().get();
        one.image();
        one.sames(0, 1);
        Due.fillRow(one, 0, Due.INTS, 5);
        NotInTheCoin other = new NotInTheCoin();
        Due.due("another one: count(1)", other.count(1), 0);
        Due.due("another one: count(5)", other.count(5), 8);
        Due.due("another one: cost(0)", other.cost(0), -11);
        Due.due("another one: restore()", other.restore(), -3);
        Due.due("the one: count(1)", one.count(1), 6);
    }

    /** A town, and a text on shelf 7. */
    private static Supplier<NotInTheCoin> text(Supplier<NotInTheCoin> made, String text) {
        return Edge.rowAt(made, 7, Due.BYTES, text.chars().toArray());
    }

    private static void runs(Supplier<NotInTheCoin> made, String text, long statements) {
        Edge.gives("town of " + text, text(made, text), x -> x.town(7), statements);
    }

    private static void runs(String text, long statements) {
        runs(Edge.fresh(), text, statements);
    }

    private static void fault(Supplier<NotInTheCoin> made, String text, long fault) {
        Edge.leaves("town of '" + text + "'", text(made, text), x -> x.town(7), fault);
    }

    private static void fault(String text, long fault) {
        fault(Edge.fresh(), text, fault);
    }

    private static void townShelves() {
        Supplier<NotInTheCoin> texts = Edge.rowsEverywhere(Edge.fresh(), Due.BYTES, 'p', '5', ';');
        Edge.range("town(d)", texts, (x, d) -> x.town(d), 0, 7, -1);
        Edge.leaves("town of nothing", Edge.scene(), x -> x.town(0), -11);
        Edge.leaves("town of a thing", Edge.scene(), x -> x.town(1), -12);
        Edge.leaves("town of shorts", Edge.rowAt(Edge.scene(), 5, Due.SHORTS, 'p', '5', ';'), x -> x.town(5), -12);
        Edge.leaves("town of ints", Edge.rowAt(Edge.scene(), 5, Due.INTS, 'p', '5', ';'), x -> x.town(5), -12);
        Edge.leaves("town of no shorts", Edge.rowAt(Edge.scene(), 5, Due.SHORTS), x -> x.town(5), -12);
        Edge.gives("town of bytes", Edge.rowAt(Edge.scene(), 5, Due.BYTES, 'p', '5', ';'), x -> x.town(5), 1);
    }

    private static void townOneStatementAtLeast() {
        fault("", -1000);
        fault(Edge.scene(), "", -1000);
        runs("p5;", 1);
        fault(";", -1000);
        fault("p5;;", -1003);
    }

    private static void townOfAHundredBytes() {
        runs("s01;".repeat(25), 25);
        fault("p5;" + "s01;".repeat(24) + "q", -1099);
        fault("p5;" + "s01;".repeat(24) + "p", -1100);
        fault("s01;".repeat(24) + "s08;", -2096);
    }

    /** Each byte at each place of each statement: the first that can't go on is told, or the end behind it. */
    private static void townBytesThatCanNotGoOn() {
        String[] statements = {"p5;", "g123;", "l01;", "s01;", "w01;"};
        for (String statement : statements) {
            for (String ahead : new String[] {"", "s12;"}) {
                for (int place = 0; place < statement.length(); place++) {
                    for (int b = -128; b <= 127; b++) {
                        oneByte(ahead + statement.substring(0, place), statement.length() - place - 1, b);
                    }
                }
            }
        }
    }

    private static void oneByte(String ahead, int lacking, int b) {
        int place = ahead.length();
        boolean isLetter = place == 0 || ahead.endsWith(";");
        boolean goesOn = isLetter ? "pglsw".indexOf(b) >= 0 : lacking == 0 ? b == ';' : b >= '0' && b <= '9';
        if (goesOn && lacking == 0) {
            return;
        }
        NotInTheCoin x = new NotInTheCoin();
        x.row(0, 0, place + 1);
        for (int i = 0; i < place; i++) {
            x.put(0, i, ahead.charAt(i));
        }
        x.put(0, place, b);
        Due.due("'" + ahead + "' and byte " + b, x.town(0), -1000 - (goesOn ? place + 1 : place));
    }

    private static void townCutOff() {
        String whole = "p5;p6;g120;l01;s34;w07;";
        int statements = 0;
        for (int length = 1; length <= whole.length(); length++) {
            String cut = whole.substring(0, length);
            if (cut.endsWith(";")) {
                statements++;
                runs(cut, statements);
            } else {
                fault(cut, -1000 - length);
            }
        }
    }

    private static void townFormAheadOfStatements() {
        fault("s08;x", -1004);
        fault("w00;p", -1005);
        fault("l99;g80", -1007);
        fault("s08;p5;", -2000);
    }

    private static void townPeople() {
        runs("p0;p9;p0;p9;p0;p9;", 6);
        fault("p0;p9;p0;p9;p0;p9;p0;", -2018);
        runs(Edge.town("p1;p2;p3;p4;p5;"), "p6;", 1);
        fault(Edge.town("p1;p2;p3;p4;p5;"), "p6;p7;", -2003);
        fault(Edge.full(), "p0;", -2000);
        for (int taste = 0; taste <= 9; taste++) {
            Edge.gives("taste " + taste, Edge.town("p" + taste + ";"), x -> x.person(0, 0), taste);
        }
    }

    private static void townGoods() {
        for (int digit = 0; digit <= 9; digit++) {
            Supplier<NotInTheCoin> figured = Edge.town("p4;g3" + digit + "0;");
            Edge.gives("figure " + digit, figured, x -> x.good(0, 1), digit);
            if (digit <= 7) {
                Edge.gives("kind " + digit, Edge.town("p4;g" + digit + "50;"), x -> x.good(0, 0), digit);
            } else {
                fault("p4;g" + digit + "50;", -2003);
            }
        }
        fault("g000;", -2000);
        runs("p4;g000;", 2);
        fault("p4;g001;", -2003);
        runs("p1;p2;p3;p4;p5;p6;g005;", 7);
        fault("p1;p2;p3;p4;p5;p6;g006;", -2018);
        runs("p1;p2;" + EIGHT_GOODS, 10);
        fault("p1;p2;" + EIGHT_GOODS + "g000;", -2046);
        fault(Edge.full(), "g000;", -2000);
    }

    private static void townLoans() {
        runs("p1;p2;g000;l01;", 4);
        fault("p1;p2;l01;", -2006);
        fault("p1;p2;g000;l11;", -2011);
        fault("p1;p2;g000;l02;", -2011);
        fault("p1;p2;g000;l00;", -2011);
        fault("p1;p2;g000;l01;l01;", -2015);
        runs("p1;p2;" + EIGHT_GOODS + "l70;", 11);
        fault("p1;p2;" + EIGHT_GOODS + "l80;", -2046);
        runs("p1;p2;g000;" + EIGHT_LOANS, 11);
        fault("p1;p2;g000;" + EIGHT_LOANS + "l01;", -2043);
        fault(Edge.full(), "l00;", -2000);
    }

    private static void townLists() {
        runs("s07;", 1);
        runs("s70;", 1);
        fault("s08;", -2000);
        fault("s80;", -2000);
        fault("s07;s09;", -2004);
        Edge.gives("the second's becomes the first's", Edge.town("p4;g100;s01;"), x -> x.good(0, 3), 0);
        Edge.gives("the first's stays", Edge.town("p4;g100;s12;"), x -> x.good(0, 3), 1);
        Edge.gives("what the first's is by now", Edge.town("p4;g200;s01;s12;"), x -> x.good(0, 3), 0);
    }

    private static void townWeeks() {
        fault("w00;", -2000);
        runs("w01;", 1);
        Edge.gives("w01;", Edge.town("w01;"), x -> x.count(4), 1);
        runs("w60;", 1);
        Edge.gives("w60;", Edge.town("w60;"), x -> x.count(4), 60);
        fault("w61;", -2000);
        fault("w99;", -2000);
        fault("p5;w60;w61;", -2007);
    }

    private static void townWeekAbove999() {
        Supplier<NotInTheCoin> week939 = Edge.weeksOn(Edge.scene(), 934);
        Edge.gives("count(4)", week939, x -> x.count(4), 939);
        runs(week939, "w60;", 1);
        Edge.gives("to 999", text(week939, "w60;"), x -> x.town(7) + x.count(4), 1000);
        fault(week939, "w01;w60;", -2004);
        fault(week939, "w60;w01;", -2004);
        Supplier<NotInTheCoin> week999 = Edge.weeksOn(Edge.fresh(), 999);
        fault(week999, "w01;", -2000);
        fault(week999, "p1;p2;w01;", -2006);
        runs(week999, "p1;p2;", 2);
        runs(Edge.weeksOn(Edge.fresh(), 998), "w01;", 1);
        fault(Edge.weeksOn(Edge.fresh(), 998), "w02;", -2000);
    }

    private static void townStatementsOneBehindTheOther() {
        runs("p9;p9;g000;g101;l01;l10;", 6);
        fault("p9;p9;g000;g101;l01;w01;l10;", -2024);
        runs("p9;p9;g000;g101;l01;w01;l11;", 7);
        runs("p9;p9;g000;g101;s01;l01;w01;l10;", 8);
        runs("p9;p9;g000;g101;l01;s01;w01;l10;", 8);
    }

    private static void townTheFirstFaultIsTold() {
        fault("s08;w00;", -2000);
        fault("p1;s08;w00;", -2003);
        fault("p1;w61;s08;g900;", -2003);
        fault(Edge.scene(), "p1;g110;l00;s23;w02;l99;", -2020);
        fault(Edge.scene(), "p1;g110;l00;s23;w02;l9;", -1022);
    }

    private static void goodArguments() {
        for (int what = 0; what <= 3; what++) {
            int asked = what;
            Edge.range("good(g, " + what + ")", Edge.scene(), (x, g) -> x.good(g, asked), 0, 3, -1);
            Edge.range("good(g, " + what + ") of 8", Edge.full(), (x, g) -> x.good(g, asked), 0, 7, -1);
        }
        Edge.range("good(3, what)", Edge.scene(), (x, what) -> x.good(3, what), 0, 3, -1);
        int[] last = {7, 4, 5, 7};
        for (int what = 0; what <= 3; what++) {
            int asked = what;
            Edge.gives("good(7, " + what + ")", Edge.full(), x -> x.good(7, asked), last[what]);
        }
    }

    private static void personArguments() {
        for (int what = 0; what <= 2; what++) {
            int asked = what;
            Edge.range("person(p, " + what + ")", Edge.scene(), (x, p) -> x.person(p, asked), 0, 3, -1);
            Edge.range("person(p, " + what + ") of 6", Edge.full(), (x, p) -> x.person(p, asked), 0, 5, -1);
        }
        Edge.range("person(3, what)", Edge.scene(), (x, what) -> x.person(3, what), 0, 2, -1);
        Edge.gives("who has nothing: bits", Edge.town("p4;"), x -> x.person(0, 1), 0);
        Edge.gives("who has nothing: worth", Edge.town("p4;"), x -> x.person(0, 2), 0);
        Edge.gives("who has all: bits", Edge.town("p4;" + "g000;".repeat(8)), x -> x.person(0, 1), 255);
        Edge.gives("who has all: worth", Edge.town("p4;" + "g000;".repeat(8)), x -> x.person(0, 2), 16);
    }

    private static void loanArguments() {
        for (int what = 0; what <= 3; what++) {
            int asked = what;
            Edge.range("loan(l, " + what + ")", Edge.scene(), (x, l) -> x.loan(l, asked), 0, 1, -1);
            Edge.range("loan(l, " + what + ") of 8", Edge.full(), (x, l) -> x.loan(l, asked), 0, 7, -1);
        }
        Edge.range("loan(1, what)", Edge.scene(), (x, what) -> x.loan(1, what), 0, 3, -1);
        int[] last = {2, 3, 1, 1};
        for (int what = 0; what <= 3; what++) {
            int asked = what;
            Edge.gives("loan(7, " + what + ")", Edge.full(), x -> x.loan(7, asked), last[what]);
        }
        Edge.gives("paid", Edge.scene(), x -> x.loan(0, 3), 0);
        Edge.gives("open", Edge.scene(), x -> x.loan(1, 3), 1);
    }

    private static void comesTastes() {
        Edge.range("comes(taste)", Edge.scene(), (x, taste) -> x.comes(taste), 0, 9, -1);
        Edge.gives("the first", Edge.fresh(), x -> x.comes(0), 0);
        Edge.gives("taste 0", Edge.with(Edge.scene(), x -> x.comes(0)), x -> x.person(4, 0), 0);
        Edge.gives("taste 9", Edge.with(Edge.scene(), x -> x.comes(9)), x -> x.person(4, 0), 9);
    }

    private static void comesRoom() {
        Supplier<NotInTheCoin> five = Edge.town("p1;p2;p3;p4;p5;");
        Edge.gives("the sixth", five, x -> x.comes(6), 5);
        Edge.leaves("the seventh", Edge.with(five, x -> x.comes(6)), x -> x.comes(7), -2);
        Edge.leaves("-1 ahead of -2", Edge.full(), x -> x.comes(10), -1);
        Edge.leaves("-1 ahead of -2", Edge.full(), x -> x.comes(-1), -1);
        Edge.leaves("no room", Edge.full(), x -> x.comes(0), -2);
    }

    private static void bringsArguments() {
        Supplier<NotInTheCoin> things = Edge.thingsEverywhere(Edge.scene(), 7, 9);
        Edge.range("brings(d, 0)", things, (x, d) -> x.brings(d, 0), 0, 7, -1);
        Edge.range("brings(1, p)", things, (x, p) -> x.brings(1, p), 0, 3, -1);
        for (int kind = 0; kind < 8; kind++) {
            for (int figure = 0; figure <= 9; figure += 9) {
                int wanted = 10 * kind + figure;
                Supplier<NotInTheCoin> one = Edge.thingsEverywhere(Edge.town("p4;p5;"), kind, figure);
                Edge.gives("brings " + wanted, one, x -> x.brings(7, 1) + 10 * x.good(0, 0) + x.good(0, 1), wanted);
            }
        }
        Edge.gives("stays on the shelf", things, x -> x.brings(7, 0) + x.cost(7), 4 + 12);
        Edge.leaves("brings nothing", Edge.scene(), x -> x.brings(0, 0), -11);
        Edge.leaves("brings bytes", Edge.scene(), x -> x.brings(2, 0), -12);
        Edge.leaves("brings shorts", Edge.scene(), x -> x.brings(3, 0), -12);
        Edge.leaves("brings ints", Edge.scene(), x -> x.brings(4, 0), -12);
        Edge.leaves("brings an empty row", Edge.rowAt(Edge.scene(), 5, Due.BYTES), x -> x.brings(5, 0), -12);
        Edge.leaves("nobody is there", Edge.thingsEverywhere(Edge.fresh(), 0, 0), x -> x.brings(0, 0), -1);
    }

    private static void bringsRoom() {
        Supplier<NotInTheCoin> seven = Edge.thingsEverywhere(Edge.town("p4;" + "g000;".repeat(7)), 1, 1);
        Edge.gives("the eighth", seven, x -> x.brings(0, 0), 7);
        Edge.leaves("the ninth", Edge.with(seven, x -> x.brings(0, 0)), x -> x.brings(0, 0), -2);
    }

    private static void bringsRefusalsInOrder() {
        Edge.leaves("-1 ahead of -11", Edge.scene(), x -> x.brings(0, 4), -1);
        Edge.leaves("-1 ahead of -12", Edge.scene(), x -> x.brings(2, 4), -1);
        Edge.leaves("-1 ahead of -2", Edge.thingsEverywhere(Edge.full(), 1, 1), x -> x.brings(0, 6), -1);
        Edge.leaves("-11 ahead of -2", Edge.full(), x -> x.brings(0, 0), -11);
        Edge.leaves("-12 ahead of -2", Edge.rowAt(Edge.full(), 0, Due.BYTES), x -> x.brings(0, 0), -12);
    }

    private static void lendsArguments() {
        Edge.range("lends(g, 3)", Edge.scene(), (x, g) -> x.lends(g, 3), 0, 3, -1);
        Edge.range("lends(0, p)", Edge.scene(), (x, p) -> x.lends(0, p), 0, 3, -1);
        Edge.leaves("to who has them", Edge.scene(), x -> x.lends(0, 1), -3);
        Edge.gives("to another one", Edge.scene(), x -> x.lends(0, 2), 2);
        Edge.gives("who lent has them no more", Edge.with(Edge.scene(), x -> x.lends(0, 2)), x -> x.person(1, 1), 0);
        Edge.gives("to who has them by now", Edge.with(Edge.scene(), x -> x.lends(0, 2)), x -> x.lends(0, 2), -3);
        Edge.gives("back to who had them", Edge.with(Edge.scene(), x -> x.lends(0, 2)), x -> x.lends(0, 1), 3);
        Edge.leaves("of no goods", Edge.town("p4;p5;"), x -> x.lends(0, 0), -1);
    }

    private static void lendsRoom() {
        Supplier<NotInTheCoin> seven = Edge.town("p1;p2;g001;" + EIGHT_LOANS.substring(4));
        seven = Edge.with(seven, x -> Due.due("seven", x.count(2), 7));
        Edge.gives("the eighth", seven, x -> x.lends(0, 1), 7);
        Edge.leaves("the ninth", Edge.with(seven, x -> x.lends(0, 1)), x -> x.lends(0, 0), -2);
        Edge.leaves("a loan that is paid has its room", allPaid(), x -> x.lends(0, 1), -2);
    }

    /** A thing goes to and fro between two, and a silver for it: 8 loans, none of them open. */
    private static Supplier<NotInTheCoin> allPaid() {
        return Edge.with(Edge.town("p9;p9;g000;g101;"), x -> {
            for (int l = 0; l < 8; l++) {
                Due.due("lends", x.lends(0, 1 - l % 2), l);
                Due.due("pays", x.pays(l, 1), 0);
            }
        });
    }

    private static void lendsRefusalsInOrder() {
        Edge.leaves("-1 ahead of -2", Edge.full(), x -> x.lends(8, 0), -1);
        Edge.leaves("-1 ahead of -2", Edge.full(), x -> x.lends(0, 6), -1);
        Edge.leaves("-1 ahead of -2", Edge.full(), x -> x.lends(-1, -1), -1);
        Edge.leaves("-3 ahead of -2", Edge.full(), x -> x.lends(0, 1), -3);
        Edge.leaves("-2", Edge.full(), x -> x.lends(0, 0), -2);
    }

    /** A silver of 7, for which a thing of 7 and one of 8 are enough. */
    private static final String SILVER_OF_7 = "p4;p9;g051;g110;g061;l11;";

    private static void paysArguments() {
        Edge.range("pays(l, 0)", Edge.town(SILVER_OF_7), (x, l) -> x.pays(l, 0), 0, 0, -1);
        Edge.range("pays(0, g)", Edge.town(SILVER_OF_7), (x, g) -> x.pays(0, g), 0, 2, -1);
        Edge.leaves("-1 ahead of -3, paid", Edge.scene(), x -> x.pays(0, 4), -1);
        Edge.leaves("-1 ahead of -3, paid", Edge.scene(), x -> x.pays(0, -1), -1);
        Edge.leaves("no loan", Edge.town("p4;g000;"), x -> x.pays(0, 0), -1);
    }

    private static void paysWhatIsNotOpen() {
        for (int g = 0; g < 4; g++) {
            int goods = g;
            Edge.leaves("pays(0, " + g + ") when it is paid", Edge.scene(), x -> x.pays(0, goods), -3);
        }
        Supplier<NotInTheCoin> paid = Edge.with(Edge.town(SILVER_OF_7), x -> x.pays(0, 2));
        Edge.leaves("once more, with what would be enough", paid, x -> x.pays(0, 0), -3);
        Edge.gives("the last of 8", Edge.with(allPaid(), NotInTheCoin::image), x -> x.count(3), 0);
    }

    private static void paysWhatCanNotPay() {
        Supplier<NotInTheCoin> lent = Edge.town("p4;p9;g110;g191;g041;g051;g060;l01;");
        Edge.leaves("what was lent", lent, x -> x.pays(0, 0), -3);
        Edge.leaves("what is the same", lent, x -> x.pays(0, 1), -3);
        Edge.leaves("what is worth 1 less", lent, x -> x.pays(0, 2), -3);
        Edge.gives("what is worth as much", lent, x -> x.pays(0, 3), 0);
        Edge.leaves("what who owes has not", lent, x -> x.pays(0, 4), -3);
        Edge.leaves("the same by the list", Edge.with(lent, x -> x.sames(1, 0)), x -> x.pays(0, 3), -3);
        Edge.leaves("a kind is always the same as itself", Edge.with(lent, x -> x.sames(0, 1)), x -> x.pays(0, 1), -3);
        Edge.leaves("worth less to who lent", Edge.town("p0;p9;g000;g301;l01;"), x -> x.pays(0, 1), -3);
        Edge.gives("worth less to who owes", Edge.town("p9;p0;g000;g301;l01;"), x -> x.pays(0, 1), 0);
    }

    private static void samesArguments() {
        Edge.range("sames(a, 3)", Edge.scene(), (x, a) -> x.sames(a, 3), 0, 7, -1);
        Edge.range("sames(3, b)", Edge.scene(), (x, b) -> x.sames(3, b), 0, 7, -1);
        Edge.gives("sames(0, 7)", Edge.fresh(), x -> x.sames(0, 7), 7);
        Edge.gives("sames(7, 0)", Edge.fresh(), x -> x.sames(7, 0), 0);
        Edge.gives("what it was by then", Edge.with(Edge.fresh(), x -> x.sames(0, 7)), x -> x.sames(7, 0), 0);
        Edge.gives("what it was by then", Edge.with(Edge.fresh(), x -> x.sames(7, 0)), x -> x.sames(3, 0), 7);
        Edge.gives("one class less", Edge.with(Edge.fresh(), x -> x.sames(7, 0)), x -> x.count(5), 7);
        Edge.gives("all of one class", Edge.with(Edge.fresh(), x -> {
            for (int b = 0; b < 7; b++) {
                x.sames(7, b);
            }
        }), x -> x.count(5), 1);
    }

    private static void weeksArguments() {
        Edge.range("weeks(n)", Edge.scene(), (x, n) -> x.weeks(n), 1, 60, -1);
        Edge.gives("1 week", Edge.with(Edge.scene(), x -> x.weeks(1)), x -> x.count(4), 6);
        Edge.gives("60 weeks", Edge.with(Edge.scene(), x -> x.weeks(60)), x -> x.count(4), 65);
        Edge.gives("nobody has loans", Edge.fresh(), x -> x.weeks(60), 0);
    }

    private static void weeksAbove999() {
        Supplier<NotInTheCoin> week939 = Edge.weeksOn(Edge.scene(), 934);
        Edge.gives("60 to 999", week939, x -> x.weeks(60), 1);
        Edge.gives("999", Edge.with(week939, x -> x.weeks(60)), x -> x.count(4), 999);
        Supplier<NotInTheCoin> week940 = Edge.weeksOn(Edge.scene(), 935);
        Edge.leaves("60 to 1000", week940, x -> x.weeks(60), -3);
        Edge.gives("none of them went", Edge.with(week940, x -> x.weeks(60)), x -> x.count(4), 940);
        Edge.gives("59 to 999", week940, x -> x.weeks(59), 1);
        Supplier<NotInTheCoin> week999 = Edge.weeksOn(Edge.scene(), 994);
        Edge.leaves("1 to 1000", week999, x -> x.weeks(1), -3);
        Edge.leaves("-1 ahead of -3", week999, x -> x.weeks(0), -1);
        Edge.leaves("-1 ahead of -3", week999, x -> x.weeks(61), -1);
    }

    private static void aWeekPaysByWhatIsEnough() {
        Supplier<NotInTheCoin> songOf6 = Edge.town("p3;p3;g400;g031;l01;");
        Edge.gives("a thing of 5 is not enough in week 0", songOf6, x -> x.canPay(0), 0);
        Edge.gives("but in week 1, by the number it has become", songOf6, x -> x.weeks(1), 0);
        Supplier<NotInTheCoin> songOf5 = Edge.town("p3;p3;g400;g031;w01;l01;");
        Edge.gives("a thing of 5 is enough in week 1", songOf5, x -> x.canPay(0), 2);
        Edge.gives("but not in week 2", songOf5, x -> x.weeks(1), 1);
        Edge.gives("then in week 3", songOf5, x -> x.weeks(2), 0);
        Edge.gives("a thing of 4 never is", Edge.town("p3;p3;g400;g021;l01;"), x -> x.weeks(60), 1);
    }

    private static void aWeekPaysByWhatIsWorthLeast() {
        Supplier<NotInTheCoin> silverOf6 = Edge.town("p4;p9;g100;g051;g031;g041;g041;l01;");
        Edge.gives("least of what is enough, the least number", Edge.with(silverOf6, x -> x.weeks(1)),
            x -> x.person(0, 1), 8);
        Supplier<NotInTheCoin> walkAndGrief = Edge.town("p5;p0;g020;g301;g511;l01;");
        Edge.gives("a walk, 0 to who owes, grief is 9 to him", Edge.with(walkAndGrief, x -> x.weeks(1)),
            x -> x.person(0, 1), 2);
        Supplier<NotInTheCoin> griefAndWalk = Edge.town("p4;p9;g020;g301;g511;l01;");
        Edge.gives("grief, 0 to who owes, a walk is 9 to him", Edge.with(griefAndWalk, x -> x.weeks(1)),
            x -> x.person(0, 1), 4);
    }

    private static void aWeekPaysByTheFirstAndTheLastGoods() {
        Supplier<NotInTheCoin> first = Edge.town("p4;p9;g101;g000;l11;");
        Edge.gives("by goods 0", first, x -> x.weeks(1), 0);
        Edge.gives("they are his then", Edge.with(first, x -> x.weeks(1)), x -> x.person(0, 1), 1);
        Supplier<NotInTheCoin> last = Edge.town("p4;p9;" + "g000;".repeat(7) + "g101;l01;");
        Edge.gives("by goods 7", last, x -> x.weeks(1), 0);
        Edge.gives("they are his then", Edge.with(last, x -> x.weeks(1)), x -> x.good(7, 2), 0);
    }

    private static void aWeekGoesByNumbers() {
        Supplier<NotInTheCoin> handedOn = Edge.town("p9;p9;p9;g000;g001;g102;l12;l01;");
        Edge.gives("what loan 0 brings pays loan 1", handedOn, x -> x.weeks(1), 0);
        Edge.gives("the silver is with the first", Edge.with(handedOn, x -> x.weeks(1)), x -> x.good(2, 2), 0);
        Supplier<NotInTheCoin> late = Edge.town("p9;p9;p9;g000;g001;g102;l01;l12;");
        Edge.gives("what loan 1 brings is too late for loan 0", late, x -> x.weeks(1), 1);
        Edge.gives("loan 0 is open", Edge.with(late, x -> x.weeks(1)), x -> x.count(3), 1);
        Edge.gives("a week on", late, x -> x.weeks(2), 0);
    }
}
