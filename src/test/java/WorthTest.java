/** Promises 12 to 21: worth, payments. */
public final class WorthTest {
    private static final String EACH_KIND = "p7;p0;p9;g040;g140;g240;g340;g440;g540;g640;g740;";

    private WorthTest() {
    }

    public static void main(String[] args) {
        worthOfKinds();
        worthByWeeks();
        worthRefusals();
        would();
        takes();
        canPay();
        bestPayment();
        hasThen();
        openThen();
        cleared();
        thenBeyondTheLastWeek();
        richest();
        worst();
        Due.end();
    }

    private static void worths(String when, NotInTheCoin x, int p, int... due) {
        for (int g = 0; g < due.length; g++) {
            Due.due(when + " worth(" + p + ", " + g + ")", x.worth(p, g), due[g]);
        }
    }

    private static void worthOfKinds() {
        NotInTheCoin x = Due.townOf(EACH_KIND);
        worths("week 0", x, 0, 6, 10, 9, 7, 14, 2, 4, 11);
        worths("week 0", x, 1, 6, 10, 6, 0, 0, 9, 3, 10);
        worths("week 0", x, 2, 6, 10, 10, 9, 18, 0, 5, 12);
    }

    private static void worthByWeeks() {
        NotInTheCoin x = Due.townOf(EACH_KIND);
        x.weeks(1);
        worths("week 1", x, 0, 6, 10, 8, 7, 13, 2, 4, 11);
        worths("week 1", x, 1, 6, 10, 5, 0, 0, 9, 2, 9);
        x.weeks(1);
        worths("week 2", x, 0, 6, 10, 7, 7, 14, 2, 3, 10);
        x.weeks(1);
        worths("week 3", x, 0, 6, 10, 9, 7, 13, 2, 4, 11);
        x = Due.townOf("p1;p0;g200;g600;g700;w02;");
        worths("figure 0, week 2", x, 0, 0, 0, 3);
    }

    private static void worthRefusals() {
        NotInTheCoin x = Due.townOf("p7;g040;");
        Due.due("worth(1, 0)", x.worth(1, 0), -1);
        Due.due("worth(-1, 0)", x.worth(-1, 0), -1);
        Due.due("worth(0, 1)", x.worth(0, 1), -1);
        Due.due("worth(0, -1)", x.worth(0, -1), -1);
    }

    private static void would() {
        NotInTheCoin x = Due.townOf("p7;g040;g100;g110;g000;");
        Due.due("as much", x.would(0, 0, 1), 1);
        Due.due("as much back", x.would(0, 1, 0), 1);
        Due.due("more", x.would(0, 0, 2), 1);
        Due.due("less", x.would(0, 2, 0), 0);
        Due.due("the same kind", x.would(0, 1, 2), 0);
        Due.due("itself", x.would(0, 0, 0), 0);
        x.sames(0, 1);
        Due.due("the same by the list", x.would(0, 0, 2), 0);
        Due.due("would(1, 0, 0)", x.would(1, 0, 0), -1);
        Due.due("would(-1, 0, 0)", x.would(-1, 0, 0), -1);
        Due.due("would(0, 4, 0)", x.would(0, 4, 0), -1);
        Due.due("would(0, -1, 0)", x.would(0, -1, 0), -1);
        Due.due("would(0, 0, 4)", x.would(0, 0, 4), -1);
        Due.due("would(0, 0, -1)", x.would(0, 0, -1), -1);
    }

    private static void takes() {
        NotInTheCoin x = Due.townOf(EACH_KIND);
        Due.due("takes(0, 0)", x.takes(0, 0), 2 + 4 + 8 + 16 + 128);
        Due.due("takes(1, 0)", x.takes(1, 0), 2 + 4 + 32 + 128);
        Due.due("takes(0, 4)", x.takes(0, 4), 0);
        Due.due("takes(1, 3)", x.takes(1, 3), 247);
        x.sames(1, 2);
        Due.due("takes(0, 2)", x.takes(0, 2), 16 + 128);
        Due.due("takes(3, 0)", x.takes(3, 0), -1);
        Due.due("takes(-1, 0)", x.takes(-1, 0), -1);
        Due.due("takes(0, 8)", x.takes(0, 8), -1);
        Due.due("takes(0, -1)", x.takes(0, -1), -1);
    }

    private static void canPay() {
        NotInTheCoin x = Due.townOf("p4;p9;p1;g040;g101;g131;g301;g401;g102;g061;l01;");
        Due.due("of who owes, by who lent, not the same", x.canPay(0), 2 + 4 + 16);
        x.lends(2, 2);
        Due.due("only what he has", x.canPay(0), 2 + 16);
        x.pays(0, 1);
        Due.due("paid", x.canPay(0), 0);
        Due.due("canPay(1)", x.canPay(1), 0);
        Due.due("canPay(2)", x.canPay(2), -1);
        Due.due("canPay(-1)", x.canPay(-1), -1);
    }

    private static void bestPayment() {
        NotInTheCoin x = Due.townOf("p4;p9;g040;g111;g131;g401;g131;l01;");
        Due.due("worth most to who lent, the least of several", x.bestPayment(0), 2);
        x.pays(0, 2);
        Due.due("paid", x.bestPayment(0), -4);
        Due.due("bestPayment(1)", x.bestPayment(1), -1);
        Due.due("bestPayment(-1)", x.bestPayment(-1), -1);
        x = Due.townOf("p4;p9;g090;g111;l01;");
        Due.due("none", x.bestPayment(0), -4);
    }

    private static void hasThen() {
        NotInTheCoin x = Due.townOf("p9;p9;p9;g000;g101;g302;l01;l12;");
        Due.due("hasThen(2, 0)", x.hasThen(2, 0), 2);
        Due.due("hasThen(2, 1)", x.hasThen(2, 1), 1);
        Due.due("hasThen(2, 2)", x.hasThen(2, 2), 0);
        Due.due("hasThen(2, 60)", x.hasThen(2, 60), 0);
        Due.due("hasThen(0, 60)", x.hasThen(0, 60), 1);
        Due.due("only in mind", x.good(2, 2), 2);
        Due.due("only in mind", x.count(4), 0);
        Due.due("hasThen(2, 61)", x.hasThen(2, 61), -1);
        Due.due("hasThen(2, -1)", x.hasThen(2, -1), -1);
        Due.due("hasThen(3, 0)", x.hasThen(3, 0), -1);
        Due.due("hasThen(-1, 0)", x.hasThen(-1, 0), -1);
    }

    private static void openThen() {
        NotInTheCoin x = Due.townOf("p9;p9;p9;g000;g101;g302;l01;l12;");
        Due.due("openThen(0)", x.openThen(0), 2);
        Due.due("openThen(1)", x.openThen(1), 1);
        Due.due("openThen(2)", x.openThen(2), 0);
        Due.due("openThen(60)", x.openThen(60), 0);
        Due.due("openThen(61)", x.openThen(61), -1);
        Due.due("openThen(-1)", x.openThen(-1), -1);
        Due.due("only in mind", x.count(3), 3);
    }

    private static void cleared() {
        NotInTheCoin x = Due.townOf("p9;p9;p9;g000;g101;g302;");
        Due.due("no loan", x.cleared(), 0);
        x.lends(0, 1);
        Due.due("one week", x.cleared(), 1);
        x.lends(1, 2);
        Due.due("two weeks", x.cleared(), 2);
        x.sames(3, 1);
        Due.due("never", x.cleared(), -4);
        x = Due.townOf("p1;p1;g110;g251;l01;");
        Due.due("when the cheese is worth 7 again", x.cleared(), 3);
        Due.due("weeks(1)", x.weeks(1), 1);
        Due.due("one week less", x.cleared(), 2);
    }

    private static void thenBeyondTheLastWeek() {
        NotInTheCoin x = Due.townOf("p1;p1;g110;g251;");
        for (int i = 0; i < 16; i++) {
            x.weeks(60);
        }
        x.weeks(39);
        Due.due("count(4)", x.count(4), 999);
        x.lends(0, 1);
        Due.due("canPay(0)", x.canPay(0), 2);
        Due.due("weeks(1)", x.weeks(1), -3);
        Due.due("cleared() beyond 999", x.cleared(), 3);
        Due.due("hasThen(1, 2)", x.hasThen(1, 2), 1);
        Due.due("hasThen(1, 3)", x.hasThen(1, 3), 0);
        Due.due("openThen(2)", x.openThen(2), 1);
        Due.due("openThen(3)", x.openThen(3), 0);
    }

    private static void richest() {
        NotInTheCoin x = new NotInTheCoin();
        Due.due("nobody", x.richest(), -4);
        x = Due.townOf("p3;p4;");
        Due.due("nobody has anything", x.richest(), 0);
        x = Due.townOf("p3;p4;p5;g111;g112;");
        Due.due("the least of several", x.richest(), 1);
        x = Due.townOf("p3;p4;p5;g111;g402;");
        Due.due("by worth to himself", x.richest(), 2);
        x = Due.townOf("p3;p4;p5;g111;g402;g401;");
        Due.due("together", x.richest(), 1);
    }

    private static void worst() {
        NotInTheCoin x = Due.townOf("p3;p9;p5;g110;g080;g300;g500;g061;g400;");
        Due.due("least to himself", x.worst(0), 2);
        Due.due("the only one", x.worst(1), 4);
        Due.due("nothing", x.worst(2), -4);
        Due.due("worst(3)", x.worst(3), -1);
        Due.due("worst(-1)", x.worst(-1), -1);
        x = Due.townOf("p3;g110;g400;g040;g040;");
        Due.due("of several the least", x.worst(0), 1);
    }
}
