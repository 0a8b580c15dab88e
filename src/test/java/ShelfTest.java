/** Promises 39 to 45: shelves. */
public final class ShelfTest {
    private ShelfTest() {
    }

    public static void main(String[] args) {
        keep();
        row();
        put();
        lowestBits();
        element();
        copy();
        copyOverItself();
        copyRefusals();
        cost();
        toss();
        Due.end();
    }

    private static void keep() {
        NotInTheCoin x = new NotInTheCoin();
        Due.due("keep(0, 1, 0, 0)", x.keep(0, 1, 0, 0), 0);
        Due.due("keep(7, 1, 7, 9)", x.keep(7, 1, 7, 9), 0);
        Due.due("keep(8, 0, 0, 0)", x.keep(8, 0, 0, 0), -1);
        Due.due("keep(-1, 0, 0, 0)", x.keep(-1, 0, 0, 0), -1);
        Due.due("keep(0, 2, 0, 0)", x.keep(0, 2, 0, 0), -1);
        Due.due("keep(0, -1, 0, 0)", x.keep(0, -1, 0, 0), -1);
        Due.due("keep(7, 1, 8, 0)", x.keep(7, 1, 8, 0), -1);
        Due.due("keep(7, 1, -1, 0)", x.keep(7, 1, -1, 0), -1);
        Due.due("keep(7, 1, 0, 10)", x.keep(7, 1, 0, 10), -1);
        Due.due("keep(7, 1, 0, -1)", x.keep(7, 1, 0, -1), -1);
        Due.due("what is refused changes nothing", x.cost(7), 12);
        Due.due("nothing, the others do not matter", x.keep(7, 0, 99, -99), 0);
        Due.due("nothing is held", x.cost(7), -11);
        x.row(7, 0, 3);
        Due.due("a thing in place of a row", x.keep(7, 1, 3, 2), 0);
        Due.due("cost(7)", x.cost(7), 1);
        x.row(7, 0, 3);
        Due.due("nothing in place of a row", x.keep(7, 0, 0, 0), 0);
        Due.due("put(7, 0, 1)", x.put(7, 0, 1), -11);
    }

    private static void row() {
        NotInTheCoin x = new NotInTheCoin();
        Due.due("row(0, 0, 0)", x.row(0, 0, 0), 0);
        Due.due("row(7, 2, 100)", x.row(7, 2, 100), 0);
        Due.due("element(7, 99)", Due.elementOr(x, 7, 99), 0);
        Due.due("element(7, 100)", Due.elementOr(x, 7, 100), -2);
        Due.due("row(8, 0, 0)", x.row(8, 0, 0), -1);
        Due.due("row(-1, 0, 0)", x.row(-1, 0, 0), -1);
        Due.due("row(0, 3, 0)", x.row(0, 3, 0), -1);
        Due.due("row(0, -1, 0)", x.row(0, -1, 0), -1);
        Due.due("row(0, 0, 101)", x.row(0, 0, 101), -1);
        Due.due("row(0, 0, -1)", x.row(0, 0, -1), -14);
        Due.due("-1 ahead of -14", x.row(8, 0, -1), -1);
        Due.due("-1 ahead of -14", x.row(0, 3, -1), -1);
        x.put(7, 0, 8);
        x.put(7, 5, 9);
        Due.due("what is refused changes nothing", x.row(7, 2, -1), -14);
        Due.due("element(7, 5)", Due.elementOr(x, 7, 5), 9);
        Due.due("a new row", x.row(7, 2, 50), 0);
        Due.due("0 at first", Due.elementOr(x, 7, 5), 0);
        Due.due("0 at first", Due.elementOr(x, 7, 0), 0);
        Due.due("element(7, 50)", Due.elementOr(x, 7, 50), -2);
        x.keep(7, 1, 3, 2);
        Due.due("a row in place of a thing", x.row(7, 1, 1), 0);
        Due.due("cost(7)", x.cost(7), -12);
    }

    private static void put() {
        NotInTheCoin x = new NotInTheCoin();
        Due.due("put(8, 0, 1)", x.put(8, 0, 1), -1);
        Due.due("put(-1, 0, 1)", x.put(-1, 0, 1), -1);
        Due.due("put(0, 0, 1)", x.put(0, 0, 1), -11);
        x.keep(0, 1, 0, 0);
        Due.due("put(thing)", x.put(0, 0, 1), -12);
        x.row(0, 0, 3);
        Due.due("put(0, 3, 1)", x.put(0, 3, 1), -13);
        Due.due("put(0, -1, 1)", x.put(0, -1, 1), -13);
        Due.due("put(0, 2, 1)", x.put(0, 2, 1), 0);
        Due.due("element(0, 2)", Due.elementOr(x, 0, 2), 1);
        Due.due("element(0, 1)", Due.elementOr(x, 0, 1), 0);
    }

    private static void lowestBits() {
        NotInTheCoin x = new NotInTheCoin();
        int[] values = {0, 1, -1, 127, 128, -128, -129, 255, 256, 32767, 32768, -32769, 65535, 70000,
            Integer.MAX_VALUE, Integer.MIN_VALUE};
        for (int v : values) {
            Due.fillRow(x, 0, Due.BYTES, v);
            Due.due("byte of " + v, Due.elementOr(x, 0, 0), (byte) v);
            Due.fillRow(x, 0, Due.SHORTS, v);
            Due.due("short of " + v, Due.elementOr(x, 0, 0), (short) v);
            Due.fillRow(x, 0, Due.INTS, v);
            Due.due("int of " + v, Due.elementOr(x, 0, 0), v);
        }
    }

    private static void element() {
        NotInTheCoin x = new NotInTheCoin();
        Due.due("no such shelf", Due.elementOr(x, 8, 0), -1);
        Due.due("no such shelf", Due.elementOr(x, -1, 0), -1);
        Due.due("nothing is held", Due.elementOr(x, 0, 0), -2);
        x.keep(0, 1, 0, 0);
        Due.due("no row", Due.elementOr(x, 0, 0), -2);
        Due.fillRow(x, 0, Due.INTS, 5, 6, 7);
        Due.due("element(0, 1)", Due.elementOr(x, 0, 1), 6);
        Due.due("no such place", Due.elementOr(x, 0, 3), -2);
        Due.due("no such place", Due.elementOr(x, 0, -1), -2);
        x.row(0, 0, 0);
        Due.due("no such place", Due.elementOr(x, 0, 0), -2);
    }

    private static void elements(String when, NotInTheCoin x, int d, int... due) {
        for (int i = 0; i < due.length; i++) {
            Due.due(when + ": element(" + d + ", " + i + ")", Due.elementOr(x, d, i), due[i]);
        }
    }

    private static void copy() {
        NotInTheCoin x = new NotInTheCoin();
        Due.fillRow(x, 0, Due.SHORTS, 5, 6, 7);
        Due.fillRow(x, 1, Due.SHORTS, 1, 2, 3, 4);
        Due.due("copy(0, 1, 1, 2, 2)", x.copy(0, 1, 1, 2, 2), 2);
        elements("to", x, 1, 1, 2, 6, 7);
        elements("from", x, 0, 5, 6, 7);
        Due.due("copy(0, 0, 1, 0, 0)", x.copy(0, 0, 1, 0, 0), 0);
        Due.due("none, at the end", x.copy(0, 3, 1, 4, 0), 0);
        Due.due("copy(0, 0, 1, 0, 3)", x.copy(0, 0, 1, 0, 3), 3);
        elements("to", x, 1, 5, 6, 7, 7);
    }

    private static void copyOverItself() {
        NotInTheCoin x = new NotInTheCoin();
        Due.fillRow(x, 0, Due.INTS, 1, 2, 3, 4, 5);
        Due.due("on", x.copy(0, 0, 0, 1, 4), 4);
        elements("on", x, 0, 1, 1, 2, 3, 4);
        Due.fillRow(x, 0, Due.INTS, 1, 2, 3, 4, 5);
        Due.due("back", x.copy(0, 1, 0, 0, 4), 4);
        elements("back", x, 0, 2, 3, 4, 5, 5);
    }

    private static void copyRefusals() {
        NotInTheCoin x = new NotInTheCoin();
        Due.fillRow(x, 0, Due.BYTES, 5, 6, 7);
        Due.fillRow(x, 1, Due.BYTES, 1, 2);
        x.row(2, 1, 3);
        x.keep(3, 1, 0, 0);
        Due.due("copy(8, 0, 0, 0, 0)", x.copy(8, 0, 0, 0, 0), -1);
        Due.due("copy(-1, 0, 0, 0, 0)", x.copy(-1, 0, 0, 0, 0), -1);
        Due.due("copy(0, 0, 8, 0, 0)", x.copy(0, 0, 8, 0, 0), -1);
        Due.due("copy(0, 0, -1, 0, 0)", x.copy(0, 0, -1, 0, 0), -1);
        Due.due("-1 ahead of -11", x.copy(4, 0, 8, 0, 0), -1);
        Due.due("copy(4, 0, 0, 0, 1)", x.copy(4, 0, 0, 0, 1), -11);
        Due.due("copy(0, 0, 4, 0, 1)", x.copy(0, 0, 4, 0, 1), -11);
        Due.due("-11 ahead of -12", x.copy(3, 0, 4, 0, 1), -11);
        Due.due("-11 ahead of -12", x.copy(4, 0, 3, 0, 1), -11);
        Due.due("copy(0, 0, 3, 0, 1)", x.copy(0, 0, 3, 0, 1), -12);
        Due.due("copy(3, 0, 0, 0, 1)", x.copy(3, 0, 0, 0, 1), -12);
        Due.due("copy(3, 0, 3, 0, 0)", x.copy(3, 0, 3, 0, 0), -12);
        Due.due("of other sorts", x.copy(0, 0, 2, 0, 1), -12);
        Due.due("-12 ahead of -13", x.copy(0, 0, 2, 0, -1), -12);
        Due.due("copy(0, 0, 1, 0, -1)", x.copy(0, 0, 1, 0, -1), -13);
        Due.due("copy(0, -1, 1, 0, 1)", x.copy(0, -1, 1, 0, 1), -13);
        Due.due("copy(0, 0, 1, -1, 1)", x.copy(0, 0, 1, -1, 1), -13);
        Due.due("copy(0, 0, 1, 0, 3)", x.copy(0, 0, 1, 0, 3), -13);
        Due.due("copy(0, 2, 1, 0, 2)", x.copy(0, 2, 1, 0, 2), -13);
        Due.due("copy(0, 0, 1, 1, 2)", x.copy(0, 0, 1, 1, 2), -13);
        Due.due("copy of many", x.copy(0, 1, 1, 1, Integer.MAX_VALUE), -13);
        Due.due("copy from afar", x.copy(0, Integer.MAX_VALUE, 1, 0, Integer.MAX_VALUE), -13);
        elements("nothing changed", x, 1, 1, 2);
    }

    private static void cost() {
        NotInTheCoin x = new NotInTheCoin();
        int[] costs = {2, 7, 6, 1, 6, 0, 3, 8};
        for (int k = 0; k < 8; k++) {
            x.keep(0, 1, k, 5);
            Due.due("cost of kind " + k, x.cost(0), costs[k]);
        }
        x.keep(0, 1, 1, 0);
        Due.due("silver of 0", x.cost(0), 2);
        x.keep(0, 1, 7, 9);
        Due.due("hen of 9", x.cost(0), 12);
        Due.due("cost(8)", x.cost(8), -1);
        Due.due("cost(-1)", x.cost(-1), -1);
        Due.due("cost(1)", x.cost(1), -11);
        x.row(1, 0, 0);
        Due.due("cost of a row", x.cost(1), -12);
    }

    private static void toss() {
        NotInTheCoin x = new NotInTheCoin();
        int[] failures = {5, 5, 105, -15, -15, 5, 105, 208};
        for (int k = 0; k < 8; k++) {
            x.keep(0, 1, k, 5);
            Due.due("failure of kind " + k, x.toss(0), failures[k]);
            x.keep(0, 1, k, 0);
            Due.due("failure of kind " + k + " of 0", x.toss(0), -15);
        }
        x.keep(0, 1, 7, 9);
        Due.due("hen of 9", x.toss(0), 212);
        Due.due("toss(8)", x.toss(8), -1);
        Due.due("toss(-1)", x.toss(-1), -1);
        Due.due("toss(1)", x.toss(1), -11);
        x.row(1, 0, 0);
        Due.due("toss of a row", x.toss(1), -12);
    }
}
