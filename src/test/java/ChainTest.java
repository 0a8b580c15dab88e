/** Promises 22 to 26: chains, clearing. */
public final class ChainTest {
    private ChainTest() {
    }

    public static void main(String[] args) {
        chain();
        chainsByWorth();
        chainsByTheList();
        chainRefusals();
        climb();
        clearing();
        clearingByFirst();
        clearingRefusals();
        quarrel();
        shortest();
        shortestOfSeveral();
        shortestNone();
        shortestRefusals();
        Due.end();
    }

    private static void chain() {
        NotInTheCoin x = Due.townOf("p7;g040;g100;g110;g000;g150;");
        Due.due("to itself", x.chain(0, 0, 0, 0), 0);
        Due.due("no first step to itself", x.chain(0, 0, 0, 1), -4);
        Due.due("one step", x.chain(0, 0, 1, 0), 1);
        Due.due("the first is the end", x.chain(0, 0, 1, 1), 1);
        Due.due("silver by a thing to silver", x.chain(0, 1, 4, 0), 2);
        Due.due("by the thing", x.chain(0, 1, 4, 1), 0);
        Due.due("none", x.chain(0, 2, 4, 0), -4);
        Due.due("none", x.chain(0, 2, 4, 1), -4);
        Due.due("down", x.chain(0, 4, 3, 0), -4);
        x = Due.townOf("p7;p1;g001;g101;g041;g051;g111;");
        Due.due("the least first step", x.chain(0, 1, 4, 1), 2);
        Due.due("as if all were to be had", x.chain(0, 1, 4, 0), 2);
        x.sames(0, 1);
        Due.due("by the list", x.chain(0, 1, 4, 0), -4);
    }

    private static void chainsByWorth() {
        NotInTheCoin x = Due.townOf("p5;g000;g010;g110;g200;g300;");
        Due.due("thing of 2 to thing of 3", x.chain(0, 0, 1, 0), -4);
        Due.due("thing of 2 to silver of 7", x.chain(0, 0, 2, 0), 1);
        Due.due("cheese of 4 to walk of 5", x.chain(0, 3, 4, 0), 1);
        Due.due("walk to cheese", x.chain(0, 4, 3, 0), -4);
    }

    private static void chainsByTheList() {
        NotInTheCoin x = Due.townOf("p4;g100;g120;g040;g050;g530;s05;");
        Due.due("worth of grief", x.worth(0, 4), 5);
        Due.due("grief to silver", x.chain(0, 4, 1, 0), 1);
        Due.due("grief to thing of its class", x.chain(0, 4, 2, 0), 2);
        Due.due("by silver", x.chain(0, 4, 2, 1), 0);
        Due.due("silver to silver", x.chain(0, 0, 1, 0), 2);
        Due.due("by the least number", x.chain(0, 0, 1, 1), 2);
    }

    private static void chainRefusals() {
        NotInTheCoin x = Due.townOf("p7;g040;");
        Due.due("chain(1, 0, 0, 0)", x.chain(1, 0, 0, 0), -1);
        Due.due("chain(-1, 0, 0, 0)", x.chain(-1, 0, 0, 0), -1);
        Due.due("chain(0, 1, 0, 0)", x.chain(0, 1, 0, 0), -1);
        Due.due("chain(0, -1, 0, 0)", x.chain(0, -1, 0, 0), -1);
        Due.due("chain(0, 0, 1, 0)", x.chain(0, 0, 1, 0), -1);
        Due.due("chain(0, 0, -1, 0)", x.chain(0, 0, -1, 0), -1);
        Due.due("chain(0, 0, 0, 2)", x.chain(0, 0, 0, 2), -1);
        Due.due("chain(0, 0, 0, -1)", x.chain(0, 0, 0, -1), -1);
    }

    private static void climb() {
        NotInTheCoin x = Due.townOf("p7;g040;g100;g110;g000;g150;");
        Due.due("thing of 6 to silver of 11", x.climb(0, 0), 5);
        Due.due("silver of 6 by the thing", x.climb(0, 1), 5);
        Due.due("silver of 7 has no step", x.climb(0, 2), 0);
        Due.due("from the least", x.climb(0, 3), 9);
        Due.due("from the top", x.climb(0, 4), 0);
        Due.due("climb(1, 0)", x.climb(1, 0), -1);
        Due.due("climb(-1, 0)", x.climb(-1, 0), -1);
        Due.due("climb(0, 5)", x.climb(0, 5), -1);
        Due.due("climb(0, -1)", x.climb(0, -1), -1);
    }

    private static void clearing() {
        NotInTheCoin x = new NotInTheCoin();
        Due.due("no loans", x.clearing(-1), 0);
        x = Due.townOf("p5;p5;g000;g111;g121;l01;");
        Due.due("a loan is paid but once", x.clearing(-1), 1);
        Due.due("by the least", x.clearing(0), 1);
        x = Due.townOf("p5;p5;g000;g010;g111;g121;l01;l11;");
        Due.due("each with other goods", x.clearing(-1), 2);
        Due.due("clearing(0)", x.clearing(0), 2);
        Due.due("clearing(1)", x.clearing(1), 3);
        x.pays(0, 3);
        Due.due("only open ones", x.clearing(-1), 1);
        Due.due("paid", x.clearing(0), -4);
        Due.due("clearing(1)", x.clearing(1), 2);
        Due.due("nothing is paid by it", x.count(3), 2);
    }

    private static void clearingByFirst() {
        NotInTheCoin x = Due.townOf("p5;p5;g000;g060;g101;g131;l01;l11;");
        Due.due("loan 1 wants 8 or more", x.canPay(1), 8);
        Due.due("both", x.clearing(-1), 2);
        Due.due("loan 0 by the lesser", x.clearing(0), 2);
        Due.due("loan 1 by what it can", x.clearing(1), 3);
        x = Due.townOf("p5;p5;g060;g000;g101;g131;l01;l11;");
        Due.due("both", x.clearing(-1), 2);
        Due.due("loan 0 by what it can", x.clearing(0), 3);
        Due.due("loan 1 by the lesser", x.clearing(1), 2);
        x = Due.townOf("p5;p5;g000;g060;g131;l01;l11;");
        Due.due("one of two", x.clearing(-1), 1);
        Due.due("none last", x.clearing(0), 2);
        Due.due("none is left", x.clearing(1), -4);
        x = Due.townOf("p5;p5;g000;g060;g131;g101;l01;l11;");
        Due.due("both", x.clearing(-1), 2);
        Due.due("not the least, if that takes from the most", x.clearing(0), 3);
        Due.due("clearing(1)", x.clearing(1), 2);
    }

    private static void clearingRefusals() {
        NotInTheCoin x = Due.townOf("p5;p5;g000;g111;l01;");
        Due.due("clearing(1)", x.clearing(1), -1);
        Due.due("clearing(-2)", x.clearing(-2), -1);
        Due.due("clearing(8)", x.clearing(8), -1);
        Due.due("clearing(0)", x.clearing(0), 1);
    }

    private static void quarrel() {
        NotInTheCoin x = Due.townOf("p9;p0;g300;g500;g400;g100;");
        Due.due("walk and grief", x.quarrel(0, 1), 1);
        Due.due("grief and walk", x.quarrel(1, 0), 1);
        Due.due("as much to one is no quarrel", x.quarrel(0, 2), 0);
        Due.due("nor the other way", x.quarrel(2, 0), 0);
        Due.due("walk and silver", x.quarrel(0, 3), 1);
        Due.due("quarrel(0, 0)", x.quarrel(0, 0), -1);
        Due.due("quarrel(4, 0)", x.quarrel(4, 0), -1);
        Due.due("quarrel(-1, 0)", x.quarrel(-1, 0), -1);
        Due.due("quarrel(0, 4)", x.quarrel(0, 4), -1);
        Due.due("quarrel(0, -1)", x.quarrel(0, -1), -1);
        x = Due.townOf("p9;g300;g500;");
        Due.due("one alone", x.quarrel(0, 1), 0);
    }

    private static void list(String when, NotInTheCoin x, int... due) {
        for (int k = -1; k < 8; k++) {
            Due.due(when + ": shortest(0, " + k + ")", x.shortest(0, k), due[k + 1]);
        }
    }

    private static void shortest() {
        NotInTheCoin x = new NotInTheCoin();
        Due.fillRow(x, 0, Due.BYTES);
        list("nothing told", x, 1, 0, 0, 0, 0, 0, 0, 0, 0);
        Due.fillRow(x, 0, Due.BYTES, 3, 3, 1);
        list("itself the same", x, 1, 0, 0, 0, 0, 0, 0, 0, 0);
        Due.fillRow(x, 0, Due.SHORTS, 6, 7, 0);
        list("two", x, 2, 0, 0, 0, 0, 0, 0, 0, 1);
        Due.fillRow(x, 0, Due.INTS, 0, 1, 0, 1, 2, 0, 2, 0, 0);
        list("three", x, 3, 0, 1, 2, 0, 0, 0, 0, 0);
        Due.fillRow(x, 0, Due.BYTES, 0, 1, 0, 2, 1, 1, 2, 3, 0);
        list("the same as one that is not", x, 2, 0, 1, 1, 0, 0, 0, 0, 0);
        Due.fillRow(x, 0, Due.BYTES, 7, 6, 1, 6, 0, 0, 7, 1, 0, 1, 0, 1);
        list("classes joined", x, 2, 0, 0, 0, 0, 0, 0, 1, 1);
        Due.due("the list is as it was", x.count(5), 8);
    }

    private static void shortestOfSeveral() {
        NotInTheCoin x = new NotInTheCoin();
        int[] all = new int[28 * 3];
        int i = 0;
        for (int a = 0; a < 8; a++) {
            for (int b = a + 1; b < 8; b++) {
                all[i] = b;
                all[i + 1] = a;
                i += 3;
            }
        }
        Due.fillRow(x, 0, Due.BYTES, all);
        list("all others", x, 8, 0, 1, 2, 3, 4, 5, 6, 7);
        Due.fillRow(x, 0, Due.BYTES, 0, 1, 0, 2, 3, 0, 0, 3, 0, 4, 1, 0, 4, 0, 0, 4, 3, 1);
        list("a greedy list would do", x, 3, 0, 1, 0, 2, 2, 0, 0, 0);
        Due.fillRow(x, 0, Due.BYTES, 0, 3, 0, 1, 2, 0, 2, 3, 0);
        list("fewest classes go ahead of least numbers", x, 2, 0, 1, 0, 1, 0, 0, 0, 0);
    }

    private static void shortestNone() {
        NotInTheCoin x = new NotInTheCoin();
        Due.fillRow(x, 0, Due.BYTES, 3, 3, 0);
        list("not the same as itself", x, -4, -4, -4, -4, -4, -4, -4, -4, -4);
        Due.fillRow(x, 0, Due.BYTES, 1, 2, 0, 2, 1, 1);
        list("both", x, -4, -4, -4, -4, -4, -4, -4, -4, -4);
        Due.fillRow(x, 0, Due.BYTES, 1, 2, 1, 7, 1, 0, 2, 5, 1, 5, 7, 1);
        list("by a chain", x, -4, -4, -4, -4, -4, -4, -4, -4, -4);
    }

    private static void shortestRefusals() {
        NotInTheCoin x = new NotInTheCoin();
        Due.due("shortest(8, 0)", x.shortest(8, 0), -1);
        Due.due("shortest(-1, 0)", x.shortest(-1, 0), -1);
        Due.due("shortest(0, -2)", x.shortest(0, -2), -1);
        Due.due("shortest(0, 8)", x.shortest(0, 8), -1);
        Due.due("shortest(0, 0)", x.shortest(0, 0), -11);
        x.keep(0, 1, 0, 0);
        Due.due("-1 ahead of -12", x.shortest(0, 8), -1);
        Due.due("shortest of a thing", x.shortest(0, 0), -12);
        Due.fillRow(x, 0, Due.BYTES, 1, 2, 0, 1);
        Due.due("unwhole", x.shortest(0, 0), -13);
        Due.fillRow(x, 0, Due.BYTES, 1, 8, 0);
        Due.due("no such kind", x.shortest(0, -1), -13);
        Due.fillRow(x, 0, Due.BYTES, -1, 2, 0);
        Due.due("no such kind", x.shortest(0, 0), -13);
        Due.fillRow(x, 0, Due.BYTES, 1, 2, 0, 1, 2, 2);
        Due.due("neither 0 nor 1", x.shortest(0, 0), -13);
        Due.fillRow(x, 0, Due.BYTES, 1, 2, -1);
        Due.due("neither 0 nor 1", x.shortest(0, -1), -13);
        Due.due("-1 ahead of -13", x.shortest(0, 9), -1);
    }
}
