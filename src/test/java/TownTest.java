/** Promises 1 to 11: the town as told. */
public final class TownTest {
    private TownTest() {
    }

    public static void main(String[] args) {
        aNewObject();
        texts();
        faultsOfForm();
        faultsOfStatements();
        aFaultChangesNothing();
        textShelves();
        goods();
        people();
        loans();
        comes();
        brings();
        lends();
        pays();
        payRefusals();
        sames();
        weeks();
        weekPayments();
        weekRefusals();
        Due.end();
    }

    private static void aNewObject() {
        NotInTheCoin x = new NotInTheCoin();
        Due.due("new: count(0)", x.count(0), 0);
        Due.due("new: count(1)", x.count(1), 0);
        Due.due("new: count(2)", x.count(2), 0);
        Due.due("new: count(3)", x.count(3), 0);
        Due.due("new: count(4)", x.count(4), 0);
        Due.due("new: count(5)", x.count(5), 8);
        Due.due("new: count(6)", x.count(6), 0);
        Due.due("new: good(0, 0)", x.good(0, 0), -1);
        Due.due("new: person(0, 0)", x.person(0, 0), -1);
        Due.due("new: loan(0, 0)", x.loan(0, 0), -1);
        for (int d = 0; d < 8; d++) {
            Due.due("new: cost(" + d + ")", x.cost(d), -11);
        }
    }

    private static void texts() {
        NotInTheCoin x = new NotInTheCoin();
        Due.due("town p5;", Due.tell(x, "p5;"), 1);
        Due.due("person(0, 0)", x.person(0, 0), 5);
        Due.due("town of more", Due.tell(x, "p9;g740;g301;l01;s25;w01;"), 6);
        Due.due("person(1, 0)", x.person(1, 0), 9);
        Due.due("good(0, 0)", x.good(0, 0), 7);
        Due.due("good(0, 1)", x.good(0, 1), 4);
        Due.due("good(1, 0)", x.good(1, 0), 3);
        Due.due("good(1, 1)", x.good(1, 1), 0);
        Due.due("loan(0, 0)", x.loan(0, 0), 0);
        Due.due("loan(0, 1)", x.loan(0, 1), 1);
        Due.due("loan(0, 2)", x.loan(0, 2), 0);
        Due.due("count(5)", x.count(5), 7);
        Due.due("count(4)", x.count(4), 1);
        Due.due("the text stays: goods 0 can't be lent to 1 again", x.town(7), -2013);
        Due.due("w60;", Due.tell(x, "w60;"), 1);
        Due.due("count(4) then", x.count(4), 61);
        Due.due("s00; is not one twice", Due.tell(x, "s00;s77;"), 2);
    }

    private static void faultsOfForm() {
        NotInTheCoin x = new NotInTheCoin();
        String[] texts = {"", "x", "p", "p;", "px", "p5", "p5:", "p55;", "p5;;", "p5; ", "P5;", "g", "g0",
            "g00", "g000", "g00;", "g0000;", "l", "l0", "l00", "l0;", "s1", "s10", "s1x;", "w", "w1;", "w1",
            "w01", "w001;", "p5;p5;p5;q", "p5;w0", ";", "p/;", "p:;", "l00;p5"};
        int[] places = {0, 0, 1, 1, 1, 2, 2, 2, 3, 3, 0, 1, 2, 3, 4, 3, 4, 1, 2, 3, 2, 2, 3, 2, 1, 2, 2, 3, 3,
            9, 5, 0, 1, 1, 6};
        for (int i = 0; i < texts.length; i++) {
            Due.due("town of '" + texts[i] + "'", Due.tell(x, texts[i]), -1000 - places[i]);
        }
        Due.fillRow(x, 0, Due.BYTES, 'p', '5', ';', -128, '5', ';');
        Due.due("town with a byte below 0", x.town(0), -1003);
        Due.fillText(x, 0, "p5;".repeat(33) + "p");
        Due.due("town of 100 bytes", x.town(0), -1100);
        Due.due("nothing came", x.count(1), 0);
    }

    private static void faultsOfStatements() {
        NotInTheCoin x = new NotInTheCoin();
        String[] texts = {"g000;", "p0;g800;", "p0;g900;", "p0;g001;", "p0;g001;p0;", "l00;", "p0;g000;l00;",
            "p0;g000;l01;", "p0;p0;g000;l11;", "s80;", "s08;", "s99;", "w00;", "w61;", "w99;",
            "p1;p1;p1;p1;p1;p1;p1;", "p1;w60;w61;", "p1;w00;l00;",
            "p0;g000;g000;g000;g000;g000;g000;g000;g000;g000;",
            "p0;p0;g000;l01;l00;l01;l00;l01;l00;l01;l00;l01;",
            "p0;p0;g000;l01;l01;"};
        int[] places = {0, 3, 3, 3, 3, 0, 8, 8, 11, 0, 0, 0, 0, 0, 0, 18, 7, 3, 43, 43, 15};
        for (int i = 0; i < texts.length; i++) {
            Due.due("town of " + texts[i], Due.tell(x, texts[i]), -2000 - places[i]);
        }
        Due.due("form comes first", Due.tell(x, "w00;p"), -1005);
        Due.due("each on those ahead of it", Due.tell(x, "p0;g000;p1;l01;"), 4);
    }

    private static void aFaultChangesNothing() {
        NotInTheCoin x = Due.townOf("p3;p4;g120;g231;l01;w02;");
        String before = Due.stateOf(x);
        Due.due("town", Due.tell(x, "p7;g110;l10;s56;w20;l99;"), -2020);
        Due.due("town", Due.tell(x, "p7;g110;l10;s56;w20;q"), -1020);
        Due.due("nothing changed", Due.stateOf(x).equals(before) ? 1 : 0, 1);
        for (int i = 0; i < 16; i++) {
            x.weeks(60);
        }
        Due.due("count(4)", x.count(4), 962);
        Due.due("w38;", Due.tell(x, "w38;"), -2000);
        Due.due("w30;w08;", Due.tell(x, "w30;w08;"), -2004);
        Due.due("w37;", Due.tell(x, "w37;"), 1);
        Due.due("count(4)", x.count(4), 999);
        Due.due("w01;", Due.tell(x, "w01;"), -2000);
    }

    private static void textShelves() {
        NotInTheCoin x = new NotInTheCoin();
        Due.due("town(-1)", x.town(-1), -1);
        Due.due("town(8)", x.town(8), -1);
        Due.due("town(0)", x.town(0), -11);
        x.keep(0, 1, 0, 0);
        Due.due("town(thing)", x.town(0), -12);
        Due.fillRow(x, 0, Due.SHORTS, 'p', '5', ';');
        Due.due("town(shorts)", x.town(0), -12);
        Due.fillRow(x, 0, Due.INTS, 'p', '5', ';');
        Due.due("town(ints)", x.town(0), -12);
        Due.fillRow(x, 0, Due.BYTES, 'p', '5', ';');
        Due.due("town(bytes)", x.town(0), 1);
    }

    private static void goods() {
        NotInTheCoin x = Due.townOf("p1;p2;g690;g751;s36;");
        Due.due("good(0, 0)", x.good(0, 0), 6);
        Due.due("good(0, 1)", x.good(0, 1), 9);
        Due.due("good(0, 2)", x.good(0, 2), 0);
        Due.due("good(0, 3)", x.good(0, 3), 3);
        Due.due("good(1, 0)", x.good(1, 0), 7);
        Due.due("good(1, 1)", x.good(1, 1), 5);
        Due.due("good(1, 2)", x.good(1, 2), 1);
        Due.due("good(1, 3)", x.good(1, 3), 7);
        Due.due("good(2, 0)", x.good(2, 0), -1);
        Due.due("good(-1, 0)", x.good(-1, 0), -1);
        Due.due("good(0, 4)", x.good(0, 4), -1);
        Due.due("good(0, -1)", x.good(0, -1), -1);
    }

    private static void people() {
        NotInTheCoin x = Due.townOf("p4;p9;g050;g301;g400;");
        Due.due("person(0, 0)", x.person(0, 0), 4);
        Due.due("person(0, 1)", x.person(0, 1), 5);
        Due.due("person(0, 2)", x.person(0, 2), 7 + 8);
        Due.due("person(1, 0)", x.person(1, 0), 9);
        Due.due("person(1, 1)", x.person(1, 1), 2);
        Due.due("person(1, 2)", x.person(1, 2), 9);
        Due.due("person(2, 0)", x.person(2, 0), -1);
        Due.due("person(-1, 0)", x.person(-1, 0), -1);
        Due.due("person(0, 3)", x.person(0, 3), -1);
        Due.due("person(0, -1)", x.person(0, -1), -1);
    }

    private static void loans() {
        NotInTheCoin x = Due.townOf("p4;p4;p4;g100;g102;l02;l11;");
        Due.due("loan(0, 0)", x.loan(0, 0), 0);
        Due.due("loan(0, 1)", x.loan(0, 1), 2);
        Due.due("loan(0, 2)", x.loan(0, 2), 0);
        Due.due("loan(0, 3)", x.loan(0, 3), 1);
        Due.due("loan(1, 0)", x.loan(1, 0), 2);
        Due.due("loan(1, 1)", x.loan(1, 1), 1);
        Due.due("loan(1, 2)", x.loan(1, 2), 1);
        Due.due("loan(2, 0)", x.loan(2, 0), -1);
        Due.due("loan(-1, 0)", x.loan(-1, 0), -1);
        Due.due("loan(0, 4)", x.loan(0, 4), -1);
        Due.due("loan(0, -1)", x.loan(0, -1), -1);
        Due.due("who lent has them no more", x.person(0, 1), 0);
    }

    private static void comes() {
        NotInTheCoin x = new NotInTheCoin();
        Due.due("comes(-1)", x.comes(-1), -1);
        Due.due("comes(10)", x.comes(10), -1);
        for (int p = 0; p < 6; p++) {
            Due.due("comes", x.comes(9 - p), p);
        }
        Due.due("person(5, 0)", x.person(5, 0), 4);
        Due.due("comes when full", x.comes(0), -2);
        Due.due("comes(10) when full", x.comes(10), -1);
        Due.due("count(1)", x.count(1), 6);
    }

    private static void brings() {
        NotInTheCoin x = Due.townOf("p4;p5;");
        x.keep(2, 1, 7, 6);
        x.row(3, 0, 2);
        Due.due("brings(2, 1)", x.brings(2, 1), 0);
        Due.due("brings again, what is taken from a shelf stays there", x.brings(2, 0), 1);
        Due.due("good(1, 0)", x.good(1, 0), 7);
        Due.due("good(1, 1)", x.good(1, 1), 6);
        Due.due("good(0, 2)", x.good(0, 2), 1);
        Due.due("brings(8, 0)", x.brings(8, 0), -1);
        Due.due("brings(-1, 0)", x.brings(-1, 0), -1);
        Due.due("brings(2, 2)", x.brings(2, 2), -1);
        Due.due("brings(2, -1)", x.brings(2, -1), -1);
        Due.due("-1 ahead of -11", x.brings(0, 2), -1);
        Due.due("brings(0, 0)", x.brings(0, 0), -11);
        Due.due("brings(3, 0)", x.brings(3, 0), -12);
        for (int g = 2; g < 8; g++) {
            Due.due("brings", x.brings(2, 0), g);
        }
        Due.due("brings when full", x.brings(2, 0), -2);
        Due.due("-11 ahead of -2", x.brings(0, 0), -11);
        Due.due("-12 ahead of -2", x.brings(3, 0), -12);
        Due.due("count(0)", x.count(0), 8);
    }

    private static void lends() {
        NotInTheCoin x = Due.townOf("p4;p5;p6;g110;");
        Due.due("lends(0, 0)", x.lends(0, 0), -3);
        Due.due("lends(0, 3)", x.lends(0, 3), -1);
        Due.due("lends(0, -1)", x.lends(0, -1), -1);
        Due.due("lends(1, 0)", x.lends(1, 0), -1);
        Due.due("lends(-1, 0)", x.lends(-1, 0), -1);
        Due.due("lends(0, 1)", x.lends(0, 1), 0);
        Due.due("lent on", x.lends(0, 2), 1);
        Due.due("good(0, 2)", x.good(0, 2), 2);
        Due.due("loan(1, 0)", x.loan(1, 0), 1);
        for (int l = 2; l < 8; l++) {
            Due.due("lends", x.lends(0, l % 2), l);
        }
        Due.due("count(3)", x.count(3), 255);
        Due.due("-3 ahead of -2", x.lends(0, 1), -3);
        Due.due("lends when full", x.lends(0, 0), -2);
        Due.due("-1 ahead of all", x.lends(0, 3), -1);
        Due.due("count(2)", x.count(2), 8);
        Due.due("good(0, 2)", x.good(0, 2), 1);
    }

    private static void pays() {
        NotInTheCoin x = Due.townOf("p4;p5;g110;g191;g051;g061;l01;l10;");
        Due.due("worth", x.worth(0, 0), 7);
        Due.due("canPay(0)", x.canPay(0), 12);
        Due.due("pays(0, 2)", x.pays(0, 2), 1);
        Due.due("good(2, 2)", x.good(2, 2), 0);
        Due.due("good(0, 2)", x.good(0, 2), 1);
        Due.due("loan(0, 3)", x.loan(0, 3), 0);
        Due.due("loan(1, 3)", x.loan(1, 3), 1);
        Due.due("pays again", x.pays(0, 3), -3);
    }

    private static void payRefusals() {
        NotInTheCoin x = Due.townOf("p4;p5;g110;g191;g041;g061;g070;l01;");
        Due.due("pays(1, 2)", x.pays(1, 2), -1);
        Due.due("pays(-1, 2)", x.pays(-1, 2), -1);
        Due.due("pays(0, 5)", x.pays(0, 5), -1);
        Due.due("pays(0, -1)", x.pays(0, -1), -1);
        Due.due("in the coin it was lent in", x.pays(0, 0), -3);
        Due.due("with what is the same", x.pays(0, 1), -3);
        Due.due("with what is worth less", x.pays(0, 2), -3);
        Due.due("with what he has not", x.pays(0, 4), -3);
        Due.due("count(3)", x.count(3), 1);
        Due.due("with enough", x.pays(0, 3), 0);
    }

    private static void sames() {
        NotInTheCoin x = Due.townOf("p4;p5;g110;g061;l01;");
        Due.due("canPay(0)", x.canPay(0), 2);
        Due.due("sames(0, 1)", x.sames(0, 1), 1);
        Due.due("good(0, 3)", x.good(0, 3), 0);
        Due.due("canPay(0)", x.canPay(0), 0);
        Due.due("sames(5, 0)", x.sames(5, 0), 0);
        Due.due("only that kind's class changes", x.good(0, 3), 0);
        Due.due("canPay(0)", x.canPay(0), 2);
        Due.due("sames(1, 7)", x.sames(1, 7), 7);
        Due.due("sames(7, 7)", x.sames(7, 7), 0);
        Due.due("count(5)", x.count(5), 6);
        Due.due("sames(8, 0)", x.sames(8, 0), -1);
        Due.due("sames(-1, 0)", x.sames(-1, 0), -1);
        Due.due("sames(0, 8)", x.sames(0, 8), -1);
        Due.due("sames(0, -1)", x.sames(0, -1), -1);
    }

    private static void weeks() {
        NotInTheCoin x = Due.townOf("p4;p5;g110;g061;g061;l01;");
        Due.due("weeks(1)", x.weeks(1), 0);
        Due.due("of several the least", x.person(0, 1), 2);
        Due.due("count(4)", x.count(4), 1);
        Due.due("weeks(60)", x.weeks(60), 0);
        Due.due("count(4)", x.count(4), 61);
        x = Due.townOf("p4;p5;g110;g191;l01;");
        Due.due("nothing to pay with", x.weeks(60), 1);
    }

    private static void weekPayments() {
        NotInTheCoin x = Due.townOf("p0;p8;g000;g401;g301;g511;l01;");
        Due.due("takes(0, 0)", x.takes(0, 0), 8);
        Due.due("weeks(1)", x.weeks(1), 0);
        Due.due("what who lent would take", x.person(0, 1), 8);
        x = Due.townOf("p9;p0;g060;g301;g401;g191;l01;");
        Due.due("worth least to who owes", x.weeks(1), 0);
        Due.due("a walk for a thing", x.person(0, 1), 2);
        x = Due.townOf("p9;p9;p0;g000;g301;l01;l02;");
        Due.due("loan 1 is by who has the goods then", x.weeks(1), 1);
        Due.due("count(3)", x.count(3), 2);
        x = Due.townOf("p9;p9;p9;g000;g101;g302;l01;l12;");
        Due.due("count(3)", x.count(3), 3);
        Due.due("behind one week", x.weeks(1), 1);
        Due.due("a loan ahead does not see what comes later", x.count(3), 1);
        Due.due("behind one more", x.weeks(1), 0);
        x = Due.townOf("p4;p8;g200;g191;g341;l01;");
        Due.due("a cheese is worth what it is by the new week", x.worth(0, 0), 4);
        Due.due("weeks(1)", x.weeks(1), 0);
        Due.due("a walk is enough", x.person(0, 1), 4);
    }

    private static void weekRefusals() {
        NotInTheCoin x = new NotInTheCoin();
        Due.due("weeks(0)", x.weeks(0), -1);
        Due.due("weeks(61)", x.weeks(61), -1);
        Due.due("weeks(-1)", x.weeks(-1), -1);
        for (int i = 0; i < 16; i++) {
            Due.due("weeks(60)", x.weeks(60), 0);
        }
        Due.due("weeks(40)", x.weeks(40), -3);
        Due.due("count(4)", x.count(4), 960);
        Due.due("weeks(39)", x.weeks(39), 0);
        Due.due("count(4)", x.count(4), 999);
        Due.due("weeks(1)", x.weeks(1), -3);
        Due.due("-1 ahead of -3", x.weeks(61), -1);
    }
}
