/** Promises 27 to 35: what was lent, what it is, two, markets, told chains, towns by seeds. */
public final class TellTest {
    private static final String EACH_KIND = "p7;p0;p9;g040;g140;g240;g340;g440;g540;g640;g740;";

    private TellTest() {
    }

    public static void main(String[] args) {
        lent();
        lentRefusals();
        whatIs();
        whatIsByWeeks();
        whatIsRefusals();
        tastes();
        tastesRefusals();
        two();
        twoChoices();
        twoWorsts();
        twoRefusals();
        market();
        marketRefusals();
        mean();
        forged();
        forgedRefusals();
        judge();
        judgeRefusals();
        towns();
        townsByHand();
        townsRefusals();
        Due.end();
    }

    private static void lent() {
        NotInTheCoin x = Due.townOf(EACH_KIND);
        Due.fillRow(x, 0, Due.BYTES, 2);
        Due.due("a cheese of 9 for", x.lent(0, 0, 0), 1 + 8 + 32 + 64);
        Due.due("how many", x.lent(0, 0, 1), 4);
        Due.fillRow(x, 0, Due.SHORTS, 2, 3, 2);
        Due.due("a cheese of 9 and a walk of 7 for", x.lent(0, 0, 0), 1 + 32 + 64);
        Due.due("how many", x.lent(0, 0, 1), 3);
        Due.fillRow(x, 0, Due.INTS, 5);
        Due.due("grief of 2 for", x.lent(0, 0, 0), 0);
        Due.due("how many", x.lent(0, 0, 1), 0);
        Due.due("grief of 9 to another one for", x.lent(0, 1, 0), 1 + 4 + 8 + 16 + 64);
        Due.fillRow(x, 0, Due.INTS);
        Due.due("nothing for", x.lent(0, 0, 0), 255);
        Due.due("how many", x.lent(0, 0, 1), 8);
    }

    private static void lentRefusals() {
        NotInTheCoin x = Due.townOf("p7;g040;g140;");
        Due.due("lent(8, 0, 0)", x.lent(8, 0, 0), -1);
        Due.due("lent(-1, 0, 0)", x.lent(-1, 0, 0), -1);
        Due.due("lent(0, 1, 0)", x.lent(0, 1, 0), -1);
        Due.due("lent(0, -1, 0)", x.lent(0, -1, 0), -1);
        Due.due("lent(0, 0, 2)", x.lent(0, 0, 2), -1);
        Due.due("lent(0, 0, -1)", x.lent(0, 0, -1), -1);
        Due.due("lent(0, 0, 0)", x.lent(0, 0, 0), -11);
        x.keep(0, 1, 0, 0);
        Due.due("of a thing", x.lent(0, 0, 0), -12);
        Due.fillRow(x, 0, Due.BYTES, 0, 2);
        Due.due("no such goods", x.lent(0, 0, 0), -13);
        Due.fillRow(x, 0, Due.BYTES, -1);
        Due.due("no such goods", x.lent(0, 0, 1), -13);
        Due.fillRow(x, 0, Due.BYTES, -128);
        Due.due("nothing is skipped", x.lent(0, 0, 1), -13);
        Due.due("-1 ahead of -13", x.lent(0, 0, 2), -1);
    }

    private static void whatIs() {
        NotInTheCoin x = Due.townOf("p4;g330;g170;g700;");
        Due.fillRow(x, 0, Due.BYTES, 5);
        Due.due("kinds of worth 5", x.whatIs(0, 0, 0, 0), 1 + 32);
        Due.due("no figure makes a walk of 5", x.whatIs(0, 0, 0, 1), 0);
        Due.fillRow(x, 0, Due.BYTES, 9);
        Due.due("kinds of worth 9", x.whatIs(0, 0, 0, 0), 2 + 128);
        Due.due("figures of silver of 9", x.whatIs(0, 0, 1, 1), 8);
        Due.due("kinds of a figure 7 of worth 9", x.whatIs(0, 0, 1, 0), 1);
        Due.due("figures of a hen of 9", x.whatIs(0, 0, 2, 1), 8);
        Due.fillRow(x, 0, Due.INTS, 4);
        Due.due("figures of a walk", x.whatIs(0, 0, 0, 1), 1023);
        Due.fillRow(x, 0, Due.INTS);
        Due.due("nothing told: kinds", x.whatIs(0, 0, 0, 0), 255);
        Due.due("nothing told: figures", x.whatIs(0, 0, 0, 1), 1023);
    }

    private static void whatIsByWeeks() {
        NotInTheCoin x = Due.townOf("p4;g230;g170;w02;");
        Due.due("cheese in week 2", x.worth(0, 0), 5);
        Due.fillRow(x, 0, Due.BYTES, 5, 7, 6, 5);
        Due.due("a cheese by weeks", x.whatIs(0, 0, 0, 0), 4);
        Due.due("its figure", x.whatIs(0, 0, 0, 1), 8);
        Due.fillRow(x, 0, Due.BYTES, -128, 7);
        Due.due("the first is skipped", x.whatIs(0, 0, 0, 0), 4 + 16);
        Due.fillRow(x, 0, Due.SHORTS, -32768, 7);
        Due.due("the first short is skipped", x.whatIs(0, 0, 0, 0), 4 + 16);
        Due.fillRow(x, 0, Due.INTS, Integer.MIN_VALUE, 7);
        Due.due("the first int is skipped", x.whatIs(0, 0, 0, 0), 4 + 16);
        Due.fillRow(x, 0, Due.SHORTS, -128, 7);
        Due.due("-128 is a short like others", x.whatIs(0, 0, 0, 0), 0);
        Due.fillRow(x, 0, Due.INTS, -32768, 7);
        Due.due("-32768 is an int like others", x.whatIs(0, 0, 0, 0), 0);
        int[] hundred = new int[100];
        for (int i = 0; i < 100; i++) {
            hundred[i] = 7 - (i + 2) % 3;
        }
        for (int i = 0; i < 16; i++) {
            x.weeks(60);
        }
        x.weeks(36);
        Due.fillRow(x, 0, Due.BYTES, hundred);
        Due.due("from week 998 on", x.whatIs(0, 0, 0, 0), 4);
    }

    private static void whatIsRefusals() {
        NotInTheCoin x = Due.townOf("p7;g040;");
        Due.due("whatIs(8, 0, 0, 0)", x.whatIs(8, 0, 0, 0), -1);
        Due.due("whatIs(-1, 0, 0, 0)", x.whatIs(-1, 0, 0, 0), -1);
        Due.due("whatIs(0, 1, 0, 0)", x.whatIs(0, 1, 0, 0), -1);
        Due.due("whatIs(0, -1, 0, 0)", x.whatIs(0, -1, 0, 0), -1);
        Due.due("whatIs(0, 0, 1, 0)", x.whatIs(0, 0, 1, 0), -1);
        Due.due("whatIs(0, 0, -1, 0)", x.whatIs(0, 0, -1, 0), -1);
        Due.due("whatIs(0, 0, 0, 2)", x.whatIs(0, 0, 0, 2), -1);
        Due.due("whatIs(0, 0, 0, -1)", x.whatIs(0, 0, 0, -1), -1);
        Due.due("whatIs(0, 0, 0, 0)", x.whatIs(0, 0, 0, 0), -11);
        x.keep(0, 1, 0, 0);
        Due.due("of a thing", x.whatIs(0, 0, 0, 0), -12);
    }

    private static void tastes() {
        NotInTheCoin x = Due.townOf("p7;g040;g340;g240;g540;");
        Due.fillRow(x, 0, Due.BYTES, 6, 3);
        Due.due("by a walk", x.tastes(0, 0), 8);
        Due.fillRow(x, 0, Due.BYTES, -128, -128, 8);
        Due.due("by a cheese", x.tastes(0, 0), 16 + 32);
        Due.fillRow(x, 0, Due.BYTES, -128, -128, 8, 4);
        Due.due("by a cheese and grief", x.tastes(0, 0), 32);
        Due.fillRow(x, 0, Due.SHORTS, 7);
        Due.due("a thing of 7", x.tastes(0, 0), 0);
        Due.fillRow(x, 0, Due.INTS, 6, Integer.MIN_VALUE);
        Due.due("a thing of 6", x.tastes(0, 0), 1023);
        Due.fillRow(x, 0, Due.INTS);
        Due.due("nothing told", x.tastes(0, 0), 1023);
        x.weeks(1);
        Due.fillRow(x, 0, Due.BYTES, 6, -128, 8);
        Due.due("by a cheese, in week 1", x.tastes(0, 0), 64 + 128);
    }

    private static void tastesRefusals() {
        NotInTheCoin x = Due.townOf("p7;g040;");
        Due.due("tastes(8, 0)", x.tastes(8, 0), -1);
        Due.due("tastes(-1, 0)", x.tastes(-1, 0), -1);
        Due.due("tastes(0, 1)", x.tastes(0, 1), -1);
        Due.due("tastes(0, -1)", x.tastes(0, -1), -1);
        Due.due("tastes(0, 0)", x.tastes(0, 0), -11);
        x.keep(0, 1, 0, 0);
        Due.due("of a thing", x.tastes(0, 0), -12);
        Due.fillRow(x, 0, Due.BYTES, 6, -128);
        Due.due("more numbers than goods", x.tastes(0, 0), -13);
        Due.due("-1 ahead of -13", x.tastes(0, 1), -1);
        Due.fillRow(x, 0, Due.BYTES, 6);
        Due.due("as many", x.tastes(0, 0), 1023);
    }

    private static void two() {
        NotInTheCoin x = Due.townOf("p9;p9;g090;g191;");
        Due.due("dear goods are not lent", x.two(0, 1), 0);
        x = Due.townOf("p0;p0;g300;g301;");
        Due.due("cheap ones are", x.two(0, 1), 11);
        x = Due.townOf("p0;p9;g300;g301;");
        Due.due("only the one's", x.two(0, 1), 10);
        Due.due("only the other's", x.two(1, 0), 1);
        x = Due.townOf("p9;p0;g300;g500;g301;");
        Due.due("each his worst, which is dear to the other", x.two(0, 1), 1);
    }

    private static void twoChoices() {
        NotInTheCoin x = Due.townOf("p6;p9;g500;g431;");
        Due.due("worth of a song to the one", x.worth(0, 1), 12);
        Due.due("lending is 2; being lent is 12 or 6: the one lends, a song is too dear to", x.two(0, 1), 10);
        x = Due.townOf("p5;p5;g010;g011;");
        Due.due("lending is 2, being lent 3 or 1: as much both ways", x.two(0, 1), 1);
        x = Due.townOf("p5;p5;g020;g021;");
        Due.due("lending is 1, being lent 4 or 2: one alone", x.two(0, 1), 1);
        x = Due.townOf("p5;p5;g040;g041;");
        Due.due("lending is 0: no more than not", x.two(0, 1), 0);
        x = Due.townOf("p9;p1;g500;g341;");
        Due.due("the other's walk is 9 to the one, 1 to him", x.two(0, 1), 1);
    }

    private static void twoWorsts() {
        NotInTheCoin x = Due.townOf("p5;p9;g600;g501;w02;");
        Due.due("who lends has half of 4 besides his 3, that is more than 4", x.two(0, 1), 11);
        x = Due.townOf("p5;p9;g600;g501;g690;g191;w02;");
        Due.due("each lends his worst, not what is dear to him", x.two(0, 1), 11);
        x = Due.townOf("p5;p9;g690;g191;g600;g501;w02;");
        Due.due("nor his first", x.two(0, 1), 11);
    }

    private static void twoRefusals() {
        NotInTheCoin x = Due.townOf("p7;p7;p7;g040;g041;");
        Due.due("two(0, 0)", x.two(0, 0), -1);
        Due.due("two(2, 2)", x.two(2, 2), -1);
        Due.due("two(3, 0)", x.two(3, 0), -1);
        Due.due("two(-1, 0)", x.two(-1, 0), -1);
        Due.due("two(0, 3)", x.two(0, 3), -1);
        Due.due("two(0, -1)", x.two(0, -1), -1);
        Due.due("two(0, 2)", x.two(0, 2), -3);
        Due.due("two(2, 0)", x.two(2, 0), -3);
    }

    private static void market() {
        NotInTheCoin x = Due.townOf("p7;p7;p7;p7;p7;p7;g041;g140;");
        Due.due("nobody else has any: above", x.market(0, 0, 6, 0), 0);
        Due.due("nobody else has any: below", x.market(0, 0, 6, 1), 1);
        Due.due("one has: above", x.market(2, 0, 6, 0), 1);
        Due.due("one has: below", x.market(2, 0, 6, 1), 6);
        Due.tell(x, "g152;g163;g164;g165;g155;");
        Due.due("five: above", x.market(1, 0, 20, 0), 3200000 - 2476099);
        Due.due("five: below", x.market(1, 0, 20, 1), 3200000);
        Due.due("four others: above", x.market(5, 0, 2, 0), 15);
        Due.due("four others: below", x.market(5, 0, 2, 1), 16);
        Due.due("nothing is better than silver: above", x.market(0, 2, 3, 0), 0);
        Due.due("nothing is better than silver: below", x.market(0, 2, 3, 1), 1);
    }

    private static void marketRefusals() {
        NotInTheCoin x = Due.townOf("p7;g040;");
        Due.due("market(1, 0, 2, 0)", x.market(1, 0, 2, 0), 1000000001L);
        Due.due("market(-1, 0, 2, 0)", x.market(-1, 0, 2, 0), 1000000001L);
        Due.due("market(0, 1, 2, 0)", x.market(0, 1, 2, 0), 1000000001L);
        Due.due("market(0, -1, 2, 0)", x.market(0, -1, 2, 0), 1000000001L);
        Due.due("market(0, 0, 1, 0)", x.market(0, 0, 1, 0), 1000000001L);
        Due.due("market(0, 0, 21, 0)", x.market(0, 0, 21, 0), 1000000001L);
        Due.due("market(0, 0, 2, 2)", x.market(0, 0, 2, 2), 1000000001L);
        Due.due("market(0, 0, 2, -1)", x.market(0, 0, 2, -1), 1000000001L);
        Due.due("market(0, 0, 20, 1)", x.market(0, 0, 20, 1), 1);
    }

    private static void mean() {
        NotInTheCoin x = Due.townOf("p7;p0;");
        Due.due("of none: above", x.mean(0, 0), 0);
        Due.due("of none: below", x.mean(0, 1), 1);
        Due.tell(x, "g041;g300;g400;");
        Due.due("27 by 3: above", x.mean(0, 0), 9);
        Due.due("27 by 3: below", x.mean(0, 1), 1);
        Due.due("6 by 3: above", x.mean(1, 0), 2);
        Due.tell(x, "g001;");
        Due.due("29 by 4: above", x.mean(0, 0), 29);
        Due.due("29 by 4: below", x.mean(0, 1), 4);
        Due.due("8 by 4: below", x.mean(1, 1), 1);
        Due.due("mean(2, 0)", x.mean(2, 0), 1000000001L);
        Due.due("mean(-1, 0)", x.mean(-1, 0), 1000000001L);
        Due.due("mean(0, 2)", x.mean(0, 2), 1000000001L);
        Due.due("mean(0, -1)", x.mean(0, -1), 1000000001L);
        x = Due.townOf("p0;g300;g400;g300;");
        Due.due("0 by 3: above", x.mean(0, 0), 0);
        Due.due("0 by 3: below", x.mean(0, 1), 1);
    }

    private static void forged() {
        NotInTheCoin x = Due.townOf("p7;p0;g040;g100;g110;g000;g150;");
        Due.fillRow(x, 0, Due.BYTES, 3, 1, 0, 2);
        Due.due("a true chain", x.forged(0, 0), -4);
        Due.fillRow(x, 0, Due.SHORTS, 3, 1, 0, 1, 2);
        Due.due("silver for silver", x.forged(0, 0), 4);
        Due.fillRow(x, 0, Due.INTS, 3, 1, 3, 1);
        Due.due("less", x.forged(0, 0), 2);
        Due.fillRow(x, 0, Due.BYTES, 3, 1, 5, 1);
        Due.due("no such goods", x.forged(0, 0), 2);
        Due.fillRow(x, 0, Due.BYTES, 5, 1);
        Due.due("a first number of no goods", x.forged(0, 0), 0);
        Due.fillRow(x, 0, Due.BYTES, -1);
        Due.due("a number below 0", x.forged(0, 0), 0);
        Due.fillRow(x, 0, Due.BYTES, -128, 1);
        Due.due("nothing is skipped", x.forged(0, 0), 0);
        Due.fillRow(x, 0, Due.BYTES, 2);
        Due.due("one alone", x.forged(0, 0), -4);
        Due.fillRow(x, 0, Due.BYTES);
        Due.due("none", x.forged(0, 0), -4);
        Due.tell(x, "g301;");
        Due.fillRow(x, 0, Due.BYTES, 0, 5);
        Due.due("a walk for a thing by taste 7", x.forged(0, 0), -4);
        Due.due("a walk for a thing by taste 0", x.forged(0, 1), 1);
    }

    private static void forgedRefusals() {
        NotInTheCoin x = Due.townOf("p7;g040;");
        Due.due("forged(8, 0)", x.forged(8, 0), -1);
        Due.due("forged(-1, 0)", x.forged(-1, 0), -1);
        Due.due("forged(0, 1)", x.forged(0, 1), -1);
        Due.due("forged(0, -1)", x.forged(0, -1), -1);
        Due.due("forged(0, 0)", x.forged(0, 0), -11);
        x.keep(0, 1, 0, 0);
        Due.due("of a thing", x.forged(0, 0), -12);
    }

    private static void judge() {
        NotInTheCoin x = Due.townOf("p9;p9;p9;g000;g101;g302;l01;l12;");
        Due.fillRow(x, 0, Due.BYTES, 2, 1, 0, 0);
        Due.due("as it will be", x.judge(0), -4);
        Due.fillRow(x, 0, Due.BYTES, 2, 1, 1, 0);
        Due.due("not so", x.judge(0), 2);
        Due.fillRow(x, 0, Due.BYTES, 1, 1, 1);
        Due.due("not so now", x.judge(0), 0);
        Due.fillRow(x, 0, Due.BYTES, -128, 1, -128, 1);
        Due.due("skipped", x.judge(0), 3);
        Due.fillRow(x, 0, Due.SHORTS, -128, 1);
        Due.due("-128 is a short like others", x.judge(0), 0);
        Due.fillRow(x, 0, Due.SHORTS, -32768, 2);
        Due.due("skipped short", x.judge(0), 1);
        Due.fillRow(x, 0, Due.INTS, Integer.MIN_VALUE, 1);
        Due.due("skipped int", x.judge(0), -4);
        Due.fillRow(x, 0, Due.INTS);
        Due.due("nothing told", x.judge(0), -4);
        int[] hundred = new int[100];
        hundred[0] = 2;
        hundred[1] = 1;
        hundred[99] = 1;
        Due.fillRow(x, 0, Due.BYTES, hundred);
        Due.due("99 weeks on", x.judge(0), 99);
        Due.due("only in mind", x.count(4), 0);
        Due.due("only in mind", x.count(3), 3);
    }

    private static void judgeRefusals() {
        NotInTheCoin x = new NotInTheCoin();
        Due.due("judge(8)", x.judge(8), -1);
        Due.due("judge(-1)", x.judge(-1), -1);
        Due.due("judge(0)", x.judge(0), -11);
        x.keep(0, 1, 0, 0);
        Due.due("of a thing", x.judge(0), -12);
    }

    private static int seed;

    private static int draw(int n) {
        seed = seed * 1103515245 + 12345;
        return (seed & 0x7fffffff) / 65536 % n;
    }

    /** One walk, one grief, three people: drawn by the same seeds beside the program. */
    private static void towns() {
        NotInTheCoin x = Due.townOf("p7;p7;p7;g300;g500;");
        String before = Due.stateOf(x);
        int[] seeds = {0, 1, -1, 12345, Integer.MIN_VALUE, Integer.MAX_VALUE};
        for (int z : seeds) {
            for (int n = 1; n <= 20; n++) {
                seed = z;
                int quarrels = 0;
                int worth = 0;
                for (int i = 0; i < n; i++) {
                    int[] owners = {draw(3), draw(3)};
                    int[] tastes = {draw(10), draw(10), draw(10)};
                    worth += tastes[owners[0]] + 9 - tastes[owners[1]];
                    int high = Math.max(tastes[0], Math.max(tastes[1], tastes[2]));
                    int low = Math.min(tastes[0], Math.min(tastes[1], tastes[2]));
                    quarrels += high >= 5 && low <= 4 ? 1 : 0;
                }
                Due.due("towns(" + n + ", " + z + ", 0)", x.towns(n, z, 0), quarrels);
                Due.due("towns(" + n + ", " + z + ", 1)", x.towns(n, z, 1), worth);
            }
        }
        Due.due("nothing changed", Due.stateOf(x).equals(before) ? 1 : 0, 1);
    }

    /** By seed 1 the first three draws are 16838, 5758 and 10113, before they are cut by n. */
    private static void townsByHand() {
        NotInTheCoin x = Due.townOf("p7;p7;g300;");
        Due.due("owner 16838 % 2 is 0, his taste 5758 % 10", x.towns(1, 1, 1), 8);
        x = Due.townOf("p7;p7;g300;g500;w01;");
        Due.due("owners 0, 0, tastes 3 and 17515 % 10: walk and grief", x.towns(1, 1, 1), 3 + 6);
        Due.due("3 and 5 quarrel", x.towns(1, 1, 0), 1);
        x = Due.townOf("p7;");
        Due.due("no goods", x.towns(20, 1, 1), 0);
        Due.due("no goods", x.towns(20, 1, 0), 0);
    }

    private static void townsRefusals() {
        NotInTheCoin x = new NotInTheCoin();
        Due.due("nobody", x.towns(1, 1, 0), -3);
        Due.due("-1 ahead of -3", x.towns(0, 1, 0), -1);
        x.comes(1);
        Due.due("towns(0, 1, 0)", x.towns(0, 1, 0), -1);
        Due.due("towns(21, 1, 0)", x.towns(21, 1, 0), -1);
        Due.due("towns(1, 1, 2)", x.towns(1, 1, 2), -1);
        Due.due("towns(1, 1, -1)", x.towns(1, 1, -1), -1);
    }
}
