import java.util.function.Supplier;

/** The edges of promises 12 to 21: worth, payments. */
public final class WorthEdgeTest {
    /** Who owes has silvers 1 to 7, all of them enough for a thing. */
    private static final String SEVEN_SILVERS = "p4;p9;g000;" + "g101;".repeat(7) + "l01;";
    /** Loans in a ring: a cheese goes round it, one loan in each week that is 3 more than sixes. */
    private static final String RING = "p3;p3;p3;p3;p3;p3;g400;g401;g402;g403;g404;g405;g220;";
    private static final String RING_LOANS = "l01;l12;l23;l34;l45;l50;";

    private WorthEdgeTest() {
    }

    public static void main(String[] args) {
        worthOfTheLeast();
        worthOfTheMost();
        worthOfTastesCut();
        worthInTheLastWeeks();
        worthArguments();
        wouldForAsMuch();
        wouldForTheSame();
        wouldArguments();
        takesAllOrNone();
        takesArguments();
        canPayAllOrNone();
        canPayArguments();
        bestPaymentMost();
        bestPaymentArguments();
        hasThenWeeks();
        openThenWeeks();
        clearedWeeks();
        clearedNever();
        weeksInMindBeyond999();
        richestOfNobody();
        richestOfSeveral();
        worstOfSeveral();
        worstArguments();
        Due.end();
    }

    /** One of a taste, and goods of each kind, all of a figure. */
    private static Supplier<NotInTheCoin> eachKind(int taste, int figure) {
        StringBuilder text = new StringBuilder("p" + taste + ";");
        for (int kind = 0; kind < 8; kind++) {
            text.append('g').append(kind).append(figure).append("0;");
        }
        return Edge.town(text.toString());
    }

    private static void worths(Supplier<NotInTheCoin> made, int week, int... due) {
        for (int g = 0; g < due.length; g++) {
            int goods = g;
            Edge.gives("week " + week + ": worth(0, " + g + ")", Edge.weeksOn(made, week), x -> x.worth(0, goods), due[g]);
        }
    }

    private static void worthOfTheLeast() {
        Supplier<NotInTheCoin> least = eachKind(0, 0);
        worths(least, 0, 2, 6, 2, 0, 0, 9, 1, 4);
        worths(least, 1, 2, 6, 1, 0, 0, 9, 0, 3);
        worths(least, 2, 2, 6, 0, 0, 0, 9, 0, 3);
        worths(least, 3, 2, 6, 2, 0, 0, 9, 1, 4);
        worths(least, 4, 2, 6, 1, 0, 0, 9, 0, 3);
        worths(least, 5, 2, 6, 0, 0, 0, 9, 0, 3);
        worths(least, 6, 2, 6, 2, 0, 0, 9, 1, 4);
    }

    private static void worthOfTheMost() {
        Supplier<NotInTheCoin> most = eachKind(9, 9);
        worths(most, 0, 11, 15, 15, 9, 18, 0, 7, 19);
        worths(most, 1, 11, 15, 14, 9, 17, 0, 7, 19);
        worths(most, 2, 11, 15, 13, 9, 18, 0, 6, 18);
        worths(most, 3, 11, 15, 15, 9, 17, 0, 7, 19);
    }

    private static void worthOfTastesCut() {
        worths(eachKind(1, 0), 0, 2, 6, 2, 1, 2, 8, 1, 4);
        worths(eachKind(1, 0), 1, 2, 6, 1, 1, 1, 8, 0, 3);
        worths(eachKind(1, 0), 2, 2, 6, 0, 1, 2, 8, 0, 3);
        worths(eachKind(2, 0), 0, 2, 6, 3, 2, 4, 7, 1, 4);
        worths(eachKind(2, 0), 1, 2, 6, 2, 2, 3, 7, 1, 4);
        worths(eachKind(2, 0), 2, 2, 6, 1, 2, 4, 7, 0, 3);
        worths(eachKind(8, 9), 0, 11, 15, 15, 8, 16, 1, 7, 19);
        worths(eachKind(7, 9), 0, 11, 15, 14, 7, 14, 2, 7, 19);
    }

    private static void worthInTheLastWeeks() {
        worths(eachKind(1, 0), 996, 2, 6, 2, 1, 2, 8, 1, 4);
        worths(eachKind(1, 0), 997, 2, 6, 1, 1, 1, 8, 0, 3);
        worths(eachKind(1, 0), 998, 2, 6, 0, 1, 2, 8, 0, 3);
        worths(eachKind(1, 0), 999, 2, 6, 2, 1, 1, 8, 1, 4);
    }

    private static void worthArguments() {
        Edge.range("worth(p, 3)", Edge.scene(), (x, p) -> x.worth(p, 3), 0, 3, -1);
        Edge.range("worth(3, g)", Edge.scene(), (x, g) -> x.worth(3, g), 0, 3, -1);
        Edge.range("worth(p, 7)", Edge.full(), (x, p) -> x.worth(p, 7), 0, 5, -1);
        Edge.range("worth(5, g)", Edge.full(), (x, g) -> x.worth(5, g), 0, 7, -1);
        Edge.leaves("worth to nobody", Edge.fresh(), x -> x.worth(0, 0), -1);
        Edge.leaves("worth of no goods", Edge.town("p4;"), x -> x.worth(0, 0), -1);
    }

    private static void wouldForAsMuch() {
        Supplier<NotInTheCoin> made = Edge.town("p4;g110;g040;g050;g060;");
        Edge.gives("1 less", made, x -> x.would(0, 0, 1), 0);
        Edge.gives("as much", made, x -> x.would(0, 0, 2), 1);
        Edge.gives("1 more", made, x -> x.would(0, 0, 3), 1);
        Edge.gives("as much, the other way", made, x -> x.would(0, 2, 0), 1);
        Edge.gives("1 more, the other way", made, x -> x.would(0, 3, 0), 0);
        Supplier<NotInTheCoin> song = Edge.town("p3;g400;g030;");
        Edge.gives("by the week it is", song, x -> x.would(0, 0, 1), 0);
        Edge.gives("by the week it is", Edge.with(song, x -> x.weeks(1)), x -> x.would(0, 0, 1), 1);
    }

    private static void wouldForTheSame() {
        Supplier<NotInTheCoin> made = Edge.town("p4;g110;g060;g120;");
        Edge.gives("the same goods", made, x -> x.would(0, 0, 0), 0);
        Edge.gives("of the same kind", made, x -> x.would(0, 0, 2), 0);
        Edge.gives("of another kind", made, x -> x.would(0, 0, 1), 1);
        Edge.gives("of one class", Edge.with(made, x -> x.sames(0, 1)), x -> x.would(0, 0, 1), 0);
        Edge.gives("of one class", Edge.with(made, x -> x.sames(1, 0)), x -> x.would(0, 0, 1), 0);
        Supplier<NotInTheCoin> changed = Edge.with(made, x -> {
            x.sames(0, 1);
            x.sames(7, 0);
        });
        Edge.gives("of other classes again", changed, x -> x.would(0, 0, 1), 1);
    }

    private static void wouldArguments() {
        Edge.range("would(p, 3, 1)", Edge.scene(), (x, p) -> x.would(p, 3, 1), 0, 3, -1);
        Edge.range("would(3, x, 1)", Edge.scene(), (x, g) -> x.would(3, g, 1), 0, 3, -1);
        Edge.range("would(3, 1, y)", Edge.scene(), (x, g) -> x.would(3, 1, g), 0, 3, -1);
    }

    private static void takesAllOrNone() {
        Supplier<NotInTheCoin> first = Edge.town("p4;g000;" + "g100;".repeat(7));
        Edge.gives("all but itself", first, x -> x.takes(0, 0), 254);
        Edge.gives("none", first, x -> x.takes(0, 1), 0);
        Edge.gives("none", first, x -> x.takes(0, 7), 0);
        Supplier<NotInTheCoin> last = Edge.town("p4;" + "g100;".repeat(7) + "g000;");
        Edge.gives("all but itself, the last", last, x -> x.takes(0, 7), 127);
        Edge.gives("only one there is", Edge.town("p4;g000;"), x -> x.takes(0, 0), 0);
        Edge.gives("others' goods, too", Edge.town("p4;p4;g001;g101;"), x -> x.takes(0, 0), 2);
    }

    private static void takesArguments() {
        Edge.range("takes(p, 3)", Edge.scene(), (x, p) -> x.takes(p, 3), 0, 3, -1);
        Edge.range("takes(3, x)", Edge.scene(), (x, g) -> x.takes(3, g), 0, 3, -1);
    }

    private static void canPayAllOrNone() {
        Edge.gives("seven silvers", Edge.town(SEVEN_SILVERS), x -> x.canPay(0), 254);
        Supplier<NotInTheCoin> paid = Edge.with(Edge.town(SEVEN_SILVERS), x -> x.pays(0, 7));
        Edge.gives("it is paid", paid, x -> x.canPay(0), 0);
        Edge.gives("nothing but what was lent", Edge.town("p4;p4;g000;g100;l01;"), x -> x.canPay(0), 0);
        Edge.gives("1 less, as much, 1 more", Edge.town("p4;p9;g110;g041;g051;g061;l01;"), x -> x.canPay(0), 12);
        Edge.gives("what was lent is lent on", Edge.town("p4;p4;p4;g000;g101;l01;l02;"), x -> x.canPay(0), 2);
    }

    private static void canPayArguments() {
        Edge.range("canPay(l)", Edge.scene(), (x, l) -> x.canPay(l), 0, 1, -1);
        Edge.range("canPay(l) of 8", Edge.full(), (x, l) -> x.canPay(l), 0, 7, -1);
        Edge.leaves("no loans", Edge.town("p4;g000;"), x -> x.canPay(0), -1);
    }

    private static void bestPaymentMost() {
        Edge.gives("of seven the least number", Edge.town(SEVEN_SILVERS), x -> x.bestPayment(0), 1);
        Supplier<NotInTheCoin> one = Edge.town("p4;p9;g000;g101;g101;g111;g111;g101;l01;");
        Edge.gives("most, of two the least number", one, x -> x.bestPayment(0), 3);
        Supplier<NotInTheCoin> tastes = Edge.town("p9;p0;g000;g301;g501;g191;l01;");
        Edge.gives("most to who lent", tastes, x -> x.bestPayment(0), 3);
        Supplier<NotInTheCoin> walk = Edge.town("p9;p0;g000;g511;g301;l01;");
        Edge.gives("a walk, grief is not enough to him", walk, x -> x.bestPayment(0), 2);
        Edge.gives("1 less than enough", Edge.town("p4;p9;g110;g041;l01;"), x -> x.bestPayment(0), -4);
        Edge.gives("as much as is enough", Edge.town("p4;p9;g110;g051;l01;"), x -> x.bestPayment(0), 1);
        Supplier<NotInTheCoin> paid = Edge.with(Edge.town(SEVEN_SILVERS), x -> x.pays(0, 7));
        Edge.gives("it is paid", paid, x -> x.bestPayment(0), -4);
    }

    private static void bestPaymentArguments() {
        Edge.range("bestPayment(l)", Edge.scene(), (x, l) -> x.bestPayment(l), 0, 1, -1);
        Edge.range("bestPayment(l) of 8", Edge.full(), (x, l) -> x.bestPayment(l), 0, 7, -1);
    }

    private static void hasThenWeeks() {
        Supplier<NotInTheCoin> ring = Edge.town(RING + RING_LOANS);
        Edge.range("hasThen(6, n)", ring, (x, n) -> x.hasThen(6, n), 0, 60, -1);
        Edge.range("hasThen(g, 60)", ring, (x, g) -> x.hasThen(g, 60), 0, 6, -1);
        int[] owners = {0, 5, 4, 3, 2, 1, 0};
        for (int i = 0; i < owners.length; i++) {
            int then = 6 * i - 3;
            Edge.leaves("just so far", ring, x -> x.hasThen(6, Math.max(0, then)), owners[i]);
            Edge.leaves("a week less than the next", ring, x -> x.hasThen(6, then + 5), owners[i]);
        }
        Edge.leaves("60 weeks on", ring, x -> x.hasThen(6, 60), 0);
        Edge.leaves("hasThen of no goods", Edge.town("p4;"), x -> x.hasThen(0, 0), -1);
    }

    private static void openThenWeeks() {
        Supplier<NotInTheCoin> ring = Edge.town(RING + RING_LOANS);
        Edge.range("openThen(n)", ring, (x, n) -> x.openThen(n), 0, 60, -1);
        for (int open = 6; open >= 0; open--) {
            int due = open;
            int then = 6 * (6 - open) - 3;
            Edge.leaves("just so far", ring, x -> x.openThen(Math.max(0, then)), due);
            Edge.leaves("a week less than the next", ring, x -> x.openThen(then + 5), due);
        }
        Edge.leaves("60 weeks on", ring, x -> x.openThen(60), 0);
        Edge.leaves("60 weeks on, never paid", Edge.town("p4;p4;g000;l01;"), x -> x.openThen(60), 1);
        Edge.leaves("no loans", Edge.fresh(), x -> x.openThen(60), 0);
    }

    private static void clearedWeeks() {
        Edge.leaves("no loan at all", Edge.fresh(), NotInTheCoin::cleared, 0);
        Edge.leaves("no open loan", Edge.with(Edge.town(SEVEN_SILVERS), x -> x.pays(0, 1)), NotInTheCoin::cleared, 0);
        Edge.leaves("a week", Edge.town(SEVEN_SILVERS), NotInTheCoin::cleared, 1);
        Edge.leaves("a ring from week 0", Edge.town(RING + RING_LOANS), NotInTheCoin::cleared, 33);
        Edge.leaves("a ring from week 3", Edge.town(RING + "w03;" + RING_LOANS), NotInTheCoin::cleared, 36);
        Edge.leaves("a ring from week 2", Edge.town(RING + "w02;" + RING_LOANS), NotInTheCoin::cleared, 31);
        Supplier<NotInTheCoin> lastWeek = Edge.with(Edge.town(RING + RING_LOANS), x -> x.weeks(32));
        Edge.leaves("the last week", lastWeek, NotInTheCoin::cleared, 1);
        Edge.leaves("behind it", Edge.with(lastWeek, x -> x.weeks(1)), NotInTheCoin::cleared, 0);
    }

    private static void clearedNever() {
        Edge.leaves("nothing to pay with", Edge.town("p4;p4;g000;l01;"), NotInTheCoin::cleared, -4);
        Edge.leaves("one of two never", Edge.town("p4;p4;g000;g060;g101;l01;l11;"), NotInTheCoin::cleared, -4);
        Edge.leaves("1 less than enough", Edge.town("p3;p3;g400;g021;l01;"), NotInTheCoin::cleared, -4);
        Edge.leaves("as much as is enough in week 1", Edge.town("p3;p3;g400;g031;l01;"), NotInTheCoin::cleared, 1);
    }

    private static void weeksInMindBeyond999() {
        Supplier<NotInTheCoin> week999 = Edge.with(Edge.weeksOn(Edge.town(RING), 999), x -> {
            for (int l = 0; l < 6; l++) {
                x.lends(l, (l + 1) % 6);
            }
        });
        Edge.leaves("weeks(1)", week999, x -> x.weeks(1), -3);
        Edge.leaves("a ring from week 999", week999, NotInTheCoin::cleared, 36);
        Edge.leaves("hasThen(6, 35)", week999, x -> x.hasThen(6, 35), 1);
        Edge.leaves("hasThen(6, 36)", week999, x -> x.hasThen(6, 36), 0);
        Edge.leaves("openThen(35)", week999, x -> x.openThen(35), 1);
        Edge.leaves("openThen(60)", week999, x -> x.openThen(60), 0);
    }

    private static void richestOfNobody() {
        Edge.leaves("nobody", Edge.fresh(), NotInTheCoin::richest, -4);
        Edge.leaves("one", Edge.town("p4;"), NotInTheCoin::richest, 0);
        Edge.leaves("six who have nothing", Edge.town("p4;p5;p6;p7;p8;p9;"), NotInTheCoin::richest, 0);
        Edge.leaves("what is worth 0 is as nothing", Edge.town("p4;p0;g301;"), NotInTheCoin::richest, 0);
        Edge.leaves("what is worth 1 is more", Edge.town("p4;p1;g301;"), NotInTheCoin::richest, 1);
    }

    private static void richestOfSeveral() {
        Edge.leaves("the last of six", Edge.town("p4;p4;p4;p4;p4;p4;g104;g115;"), NotInTheCoin::richest, 5);
        Edge.leaves("two who have as much", Edge.town("p4;p4;p4;p4;p4;p4;g105;g104;"), NotInTheCoin::richest, 4);
        Edge.leaves("as much together", Edge.town("p4;p4;p4;g102;g011;g011;"), NotInTheCoin::richest, 1);
        Edge.leaves("1 less together", Edge.town("p4;p4;p4;g102;g011;g001;"), NotInTheCoin::richest, 2);
        Edge.leaves("to himself", Edge.town("p0;p9;g300;g501;g101;"), NotInTheCoin::richest, 1);
    }

    private static void worstOfSeveral() {
        Edge.leaves("who has nothing", Edge.scene(), x -> x.worst(3), -4);
        Edge.leaves("who has one", Edge.scene(), x -> x.worst(2), 3);
        Edge.leaves("the least number of all", Edge.town("p4;" + "g000;".repeat(8)), x -> x.worst(0), 0);
        Edge.leaves("the last of all", Edge.town("p4;" + "g010;".repeat(7) + "g000;"), x -> x.worst(0), 7);
        Edge.leaves("of two", Edge.town("p4;g010;g000;g000;g010;"), x -> x.worst(0), 1);
        Edge.leaves("to himself", Edge.town("p9;p0;g500;g300;g501;g301;"), x -> x.worst(0), 0);
        Edge.leaves("to himself", Edge.town("p9;p0;g500;g300;g501;g301;"), x -> x.worst(1), 3);
        Edge.leaves("by the week it is", Edge.town("p4;g200;g010;"), x -> x.worst(0), 1);
        Edge.leaves("by the week it is", Edge.town("p4;g200;g010;w02;"), x -> x.worst(0), 0);
    }

    private static void worstArguments() {
        Edge.range("worst(p)", Edge.scene(), (x, p) -> x.worst(p), 0, 3, -1);
        Edge.range("worst(p) of 6", Edge.full(), (x, p) -> x.worst(p), 0, 5, -1);
        Edge.leaves("worst of nobody", Edge.fresh(), x -> x.worst(0), -1);
    }
}
