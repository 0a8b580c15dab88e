/** Promises 36 to 38: the image, what is told. */
public final class ImageTest {
    private ImageTest() {
    }

    public static void main(String[] args) {
        noImage();
        imageOfAll();
        imageOfNothing();
        imageTakenAgain();
        shelvesStay();
        count();
        Due.end();
    }

    private static void noImage() {
        NotInTheCoin x = Due.townOf("p5;g000;");
        Due.due("restore()", x.restore(), -3);
        Due.due("count(1)", x.count(1), 1);
    }

    private static void imageOfAll() {
        NotInTheCoin x = Due.townOf("p5;p3;g000;g151;s12;w03;l01;");
        String before = Due.stateOf(x);
        Due.due("image()", x.image(), 3);
        Due.due("more", Due.tell(x, "p1;g232;l12;s67;s00;w05;"), 6);
        x.pays(0, 1);
        Due.due("changed", Due.stateOf(x).equals(before) ? 1 : 0, 0);
        Due.due("restore()", x.restore(), 3);
        Due.due("as it was", Due.stateOf(x).equals(before) ? 1 : 0, 1);
        Due.due("then as then", x.comes(7), 2);
        x.weeks(1);
        Due.due("the image stays", x.restore(), 3);
        Due.due("as it was", Due.stateOf(x).equals(before) ? 1 : 0, 1);
        Due.due("canPay(0) as it was", x.canPay(0), 2);
    }

    private static void imageOfNothing() {
        NotInTheCoin x = new NotInTheCoin();
        Due.due("image()", x.image(), 0);
        Due.tell(x, "p5;g000;s01;w09;");
        Due.due("restore()", x.restore(), 0);
        Due.due("count(0)", x.count(0), 0);
        Due.due("count(1)", x.count(1), 0);
        Due.due("count(5)", x.count(5), 8);
    }

    private static void imageTakenAgain() {
        NotInTheCoin x = Due.townOf("p5;");
        x.image();
        x.weeks(2);
        Due.due("image()", x.image(), 2);
        x.weeks(2);
        Due.due("restore()", x.restore(), 2);
        Due.due("count(4)", x.count(4), 2);
        Due.due("what was restored has the same image", x.restore(), 2);
    }

    private static void shelvesStay() {
        NotInTheCoin x = new NotInTheCoin();
        x.keep(0, 1, 7, 3);
        Due.fillRow(x, 1, Due.BYTES, 5, 6);
        x.image();
        x.keep(0, 1, 1, 4);
        x.put(1, 0, 7);
        x.keep(2, 1, 5, 1);
        x.restore();
        Due.due("cost(0)", x.cost(0), 6);
        Due.due("element(1, 0)", Due.elementOr(x, 1, 0), 7);
        Due.due("cost(2)", x.cost(2), 0);
    }

    private static void count() {
        NotInTheCoin x = Due.townOf("p5;p3;p4;g000;g151;g240;l01;l12;s01;s02;w01;");
        Due.due("count(0)", x.count(0), 3);
        Due.due("count(1)", x.count(1), 3);
        Due.due("count(2)", x.count(2), 2);
        Due.due("count(3)", x.count(3), 3);
        Due.due("count(4)", x.count(4), 1);
        Due.due("count(5)", x.count(5), 6);
        Due.due("count(6)", x.count(6), 2 + 11 + 7);
        Due.due("count(7)", x.count(7), -1);
        Due.due("count(-1)", x.count(-1), -1);
        x = Due.townOf("p9;p0;g300;g301;g501;");
        Due.due("each by his own taste", x.count(6), 9 + 0 + 9);
    }
}
