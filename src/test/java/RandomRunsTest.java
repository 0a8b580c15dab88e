import java.util.Arrays;
import java.util.List;
import java.util.Random;

/** Random runs of 512 calls, each answered by NotInTheCoin and by Plain alike. */
public final class RandomRunsTest {
    private static final int RUNS = 4000;
    private static final int CALLS = 512;

    private static final String[] NAMES = {"town", "good", "person", "loan", "comes", "brings", "lends", "pays",
        "sames", "weeks", "worth", "would", "takes", "canPay", "bestPayment", "hasThen", "openThen", "cleared",
        "richest", "worst", "chain", "climb", "clearing", "quarrel", "shortest", "lent", "whatIs", "tastes",
        "two", "market", "mean", "forged", "judge", "towns", "image", "restore", "count", "keep", "row", "put",
        "element", "copy", "cost", "toss"};
    /** What each argument is: d shelf, g goods, p one of people, l loan, L loan or -1, k kind, K kind
     *  or -1, t taste, f figure, n weeks, o odds, z any number, i place, r a row's length, a digit:
     *  a number below it. */
    private static final String[] ARGUMENTS = {"d", "g4", "p3", "l4", "t", "dp", "gp", "lg", "kk", "n", "pg",
        "pgg", "pg", "l", "l", "gn", "n", "", "", "p", "pgg2", "pg", "L", "gg", "dK", "dp2", "dpg2", "dp", "pp",
        "pgo2", "p2", "dp", "d", "nz2", "", "", "8", "d2kf", "d3r", "diz", "di", "didi4", "d", "d"};

    private static final long[] ANSWERED = new long[NAMES.length];
    private static Random random;
    private static NotInTheCoin x;
    private static Plain plain;
    private static int wrong = 0;
    private static int calls = 0;

    private RandomRunsTest() {
    }

    public static void main(String[] args) {
        for (int run = 0; run < RUNS && wrong < 20; run++) {
            random = new Random(1000 + run);
            x = new NotInTheCoin();
            plain = new Plain();
            calls = 0;
            run(run);
        }
        for (int op = 0; op < NAMES.length; op++) {
            if (ANSWERED[op] < 500) {
                wrong++;
                System.out.println(NAMES[op] + " was answered without refusal only " + ANSWERED[op] + " times");
            }
        }
        System.out.println(RUNS + " runs, " + wrong + " answers not as due");
        if (wrong != 0) {
            System.exit(1);
        }
    }

    /** Calls are drawn in rounds: a way to fill the town or a shelf, then some of all calls. */
    private static void run(int run) {
        boolean small = random.nextInt(4) == 0;
        begin(run);
        while (calls < CALLS - 120 && wrong < 20) {
            switch (random.nextInt(7)) {
                case 0: text(run, small ? 4 : 14); break;
                case 1: threes(run); break;
                case 2: goodsRow(run); break;
                case 3: worthRow(run); break;
                case 4: openRow(run); break;
                case 5: thing(run); break;
                default: break;
            }
            for (int i = random.nextInt(25); i > 0; i--) {
                any(run);
            }
        }
    }

    private static void begin(int run) {
        if (random.nextInt(10) == 0) {
            return;
        }
        for (int p = 2 + random.nextInt(5); p > 0; p--) {
            call(run, 4, random.nextInt(10));
        }
        for (int g = 2 + random.nextInt(7); g > 0; g--) {
            call(run, 37, 7, 1, random.nextInt(8), random.nextInt(10));
            call(run, 5, 7, below((int) plain.count(1)));
        }
        for (int l = random.nextInt(9); l > 0; l--) {
            call(run, 6, below((int) plain.count(0)), below((int) plain.count(1)));
        }
    }

    private static void any(int run) {
        int op = random.nextInt(NAMES.length);
        // Weeks and lists that are all the same make a town dull, images come back, and rows that are
        // made anew tell nothing, so they come less often.
        if (List.of("weeks", "sames", "restore", "row", "keep").contains(NAMES[op]) && random.nextInt(4) > 0) {
            op = 20 + random.nextInt(14);
        }
        int[] a = new int[ARGUMENTS[op].length()];
        for (int i = 0; i < a.length; i++) {
            a[i] = argument(ARGUMENTS[op].charAt(i));
        }
        if (NAMES[op].equals("pays") && random.nextInt(4) > 0) {
            a[1] = Math.max(0, (int) plain.bestPayment(a[0]));
        }
        if (NAMES[op].equals("copy") && random.nextInt(3) > 0) {
            int sort = random.nextInt(3);
            fill(run, a[0], sort, random.nextInt(), random.nextInt(), random.nextInt(), random.nextInt());
            fill(run, a[2], sort, random.nextInt(), random.nextInt(), random.nextInt(), random.nextInt());
        }
        call(run, op, a);
    }

    private static int argument(char what) {
        int odd = random.nextInt(80);
        if (odd == 0) {
            return random.nextInt();
        }
        if (odd == 1) {
            return random.nextInt(130) - 20;
        }
        if (odd == 2) {
            return random.nextInt(12) - 2;
        }
        switch (what) {
            case 'd': return random.nextInt(8);
            case 'g': return below((int) plain.count(0));
            case 'p': return below((int) plain.count(1));
            case 'l': return below((int) plain.count(2));
            case 'L': return below((int) plain.count(2) + 1) - 1;
            case 'k': return random.nextInt(8);
            case 'K': return random.nextInt(9) - 1;
            case 't': case 'f': return random.nextInt(10);
            case 'n': return random.nextInt(12) == 0 ? random.nextInt(64) : random.nextInt(7);
            case 'o': return random.nextInt(22);
            case 'z': return random.nextBoolean() ? random.nextInt() : random.nextInt(9);
            case 'i': return random.nextInt(4);
            case 'r': return random.nextInt(20) == 0 ? random.nextInt(110) - 5 : random.nextInt(12);
            default: return random.nextInt(what - '0');
        }
    }

    private static int below(int n) {
        return random.nextInt(Math.max(1, n));
    }

    private static void text(int run, int statements) {
        StringBuilder text = new StringBuilder();
        int people = (int) plain.count(1);
        int goods = (int) plain.count(0);
        for (int i = random.nextInt(statements) + 1; i > 0 && text.length() < 96; i--) {
            String letters = people < 2 ? "p" : goods < 3 ? "pg" : goods < 7 && people < 5 ? "pglllsw" : "lllllsw";
            char letter = letters.charAt(random.nextInt(letters.length()));
            if (random.nextInt(25) == 0) {
                letter = "pglsw".charAt(random.nextInt(5));
            }
            text.append(letter);
            if (letter == 'p') {
                people++;
                text.append(random.nextInt(10));
            } else if (letter == 'g') {
                goods++;
                text.append(random.nextInt(8)).append(random.nextInt(10)).append(below(Math.min(people, 6)));
            } else if (letter == 'w') {
                text.append(random.nextInt(12) == 0 ? 6 : 0).append(random.nextInt(4));
            } else if (letter == 's') {
                text.append(random.nextInt(8)).append(random.nextInt(8));
            } else {
                text.append(below(Math.min(goods, 8))).append(below(Math.min(people, 6)));
            }
            text.append(';');
        }
        if (random.nextInt(8) == 0) {
            text.setCharAt(random.nextInt(text.length()), "pglsw;09x".charAt(random.nextInt(9)));
        }
        if (random.nextInt(12) == 0) {
            text.setLength(random.nextInt(text.length() + 1));
        }
        fill(run, 0, 0, text.chars().toArray());
        call(run, 0, 0);
    }

    private static void threes(int run) {
        int[] row = new int[3 * random.nextInt(12)];
        int kinds = 2 + random.nextInt(7);
        for (int i = 0; i < row.length; i++) {
            row[i] = i % 3 == 2 ? random.nextInt(4) / 3 : random.nextInt(kinds);
        }
        fill(run, 1, random.nextInt(3), row);
        for (int k = -1; k < 8; k++) {
            call(run, 24, 1, k);
        }
    }

    private static void goodsRow(int run) {
        int[] row = new int[random.nextInt(4)];
        for (int i = 0; i < row.length; i++) {
            row[i] = random.nextInt(Math.max(1, (int) plain.count(0) + random.nextInt(20) / 19));
        }
        fill(run, 2, random.nextInt(3), row);
        call(run, 25, 2, random.nextInt(6), random.nextInt(2));
        call(run, 31, 2, random.nextInt(6));
    }

    /** What is told is taken from the town, so that it is often so. */
    private static void worthRow(int run) {
        int sort = random.nextInt(3);
        int g = random.nextInt(8);
        int p = random.nextInt(6);
        boolean byWeeks = random.nextBoolean();
        int[] row = new int[random.nextInt(5)];
        for (int i = 0; i < row.length; i++) {
            int goods = byWeeks ? g : i;
            boolean is = plain.now.isP(p) && plain.now.isG(goods);
            row[i] = is ? plain.now.goods.get(goods).worth(plain.now.tastes.get(p), plain.now.week + (byWeeks ? i : 0)) : 3;
            row[i] = odd(sort, row[i]);
        }
        fill(run, 3, sort, row);
        if (byWeeks) {
            call(run, 26, 3, p, g, random.nextInt(2));
        } else {
            call(run, 27, 3, p);
        }
    }

    private static void openRow(int run) {
        int sort = random.nextInt(3);
        int[] row = new int[random.nextInt(6)];
        for (int i = 0; i < row.length; i++) {
            row[i] = odd(sort, (int) plain.openThen(i));
        }
        fill(run, 4, sort, row);
        call(run, 32, 4);
    }

    private static int odd(int sort, int v) {
        if (random.nextInt(5) == 0) {
            return sort == 0 ? Byte.MIN_VALUE : sort == 1 ? Short.MIN_VALUE : Integer.MIN_VALUE;
        }
        return random.nextInt(20) == 0 ? v + 1 : v;
    }

    private static void thing(int run) {
        int d = 5 + random.nextInt(3);
        call(run, 37, d, 1, random.nextInt(8), random.nextInt(10));
        call(run, 42, d);
        call(run, 43, d);
        call(run, 5, d, random.nextInt(6));
    }

    private static void fill(int run, int d, int sort, int... values) {
        call(run, 38, d, sort, values.length);
        for (int i = 0; i < values.length; i++) {
            call(run, 39, d, i, values[i]);
        }
    }

    private static void call(int run, int op, int... a) {
        if (calls == CALLS) {
            return;
        }
        calls++;
        int[] six = Arrays.copyOf(a, 6);
        long got = ofClass(NAMES[op], six);
        long want = ofPlain(NAMES[op], six);
        if (want >= 0 && want != 1000000001L) {
            ANSWERED[op]++;
        }
        if (got != want) {
            wrong++;
            System.out.println("run " + run + ", call " + calls + ": " + NAMES[op] + Arrays.toString(a)
                + " answered " + got + ", due is " + want);
        }
    }

    private static long ofClass(String name, int[] a) {
        switch (name) {
            case "town": return x.town(a[0]);
            case "good": return x.good(a[0], a[1]);
            case "person": return x.person(a[0], a[1]);
            case "loan": return x.loan(a[0], a[1]);
            case "comes": return x.comes(a[0]);
            case "brings": return x.brings(a[0], a[1]);
            case "lends": return x.lends(a[0], a[1]);
            case "pays": return x.pays(a[0], a[1]);
            case "sames": return x.sames(a[0], a[1]);
            case "weeks": return x.weeks(a[0]);
            case "worth": return x.worth(a[0], a[1]);
            case "would": return x.would(a[0], a[1], a[2]);
            case "takes": return x.takes(a[0], a[1]);
            case "canPay": return x.canPay(a[0]);
            case "bestPayment": return x.bestPayment(a[0]);
            case "hasThen": return x.hasThen(a[0], a[1]);
            case "openThen": return x.openThen(a[0]);
            case "cleared": return x.cleared();
            case "richest": return x.richest();
            case "worst": return x.worst(a[0]);
            case "chain": return x.chain(a[0], a[1], a[2], a[3]);
            case "climb": return x.climb(a[0], a[1]);
            case "clearing": return x.clearing(a[0]);
            case "quarrel": return x.quarrel(a[0], a[1]);
            case "shortest": return x.shortest(a[0], a[1]);
            case "lent": return x.lent(a[0], a[1], a[2]);
            case "whatIs": return x.whatIs(a[0], a[1], a[2], a[3]);
            case "tastes": return x.tastes(a[0], a[1]);
            case "two": return x.two(a[0], a[1]);
            case "market": return x.market(a[0], a[1], a[2], a[3]);
            case "mean": return x.mean(a[0], a[1]);
            case "forged": return x.forged(a[0], a[1]);
            case "judge": return x.judge(a[0]);
            case "towns": return x.towns(a[0], a[1], a[2]);
            case "image": return x.image();
            case "restore": return x.restore();
            case "count": return x.count(a[0]);
            case "keep": return x.keep(a[0], a[1], a[2], a[3]);
            case "row": return x.row(a[0], a[1], a[2]);
            case "put": return x.put(a[0], a[1], a[2]);
            case "element": return elementOf(a[0], a[1]);
            case "copy": return x.copy(a[0], a[1], a[2], a[3], a[4]);
            case "cost": return x.cost(a[0]);
            default: return x.toss(a[0]);
        }
    }

    private static long elementOf(int d, int i) {
        try {
            return x.element(d, i);
        } catch (IllegalArgumentException e) {
            return Long.MIN_VALUE;
        } catch (IllegalStateException e) {
            return Long.MIN_VALUE + 1;
        }
    }

    private static long ofPlain(String name, int[] a) {
        switch (name) {
            case "town": return plain.town(a[0]);
            case "good": return plain.good(a[0], a[1]);
            case "person": return plain.person(a[0], a[1]);
            case "loan": return plain.loan(a[0], a[1]);
            case "comes": return plain.comes(a[0]);
            case "brings": return plain.brings(a[0], a[1]);
            case "lends": return plain.lends(a[0], a[1]);
            case "pays": return plain.pays(a[0], a[1]);
            case "sames": return plain.sames(a[0], a[1]);
            case "weeks": return plain.weeks(a[0]);
            case "worth": return plain.worth(a[0], a[1]);
            case "would": return plain.would(a[0], a[1], a[2]);
            case "takes": return plain.takes(a[0], a[1]);
            case "canPay": return plain.canPay(a[0]);
            case "bestPayment": return plain.bestPayment(a[0]);
            case "hasThen": return plain.hasThen(a[0], a[1]);
            case "openThen": return plain.openThen(a[0]);
            case "cleared": return plain.cleared();
            case "richest": return plain.richest();
            case "worst": return plain.worst(a[0]);
            case "chain": return plain.chain(a[0], a[1], a[2], a[3]);
            case "climb": return plain.climb(a[0], a[1]);
            case "clearing": return plain.clearing(a[0]);
            case "quarrel": return plain.quarrel(a[0], a[1]);
            case "shortest": return plain.shortest(a[0], a[1]);
            case "lent": return plain.lent(a[0], a[1], a[2]);
            case "whatIs": return plain.whatIs(a[0], a[1], a[2], a[3]);
            case "tastes": return plain.tastes(a[0], a[1]);
            case "two": return plain.two(a[0], a[1]);
            case "market": return plain.market(a[0], a[1], a[2], a[3]);
            case "mean": return plain.mean(a[0], a[1]);
            case "forged": return plain.forged(a[0], a[1]);
            case "judge": return plain.judge(a[0]);
            case "towns": return plain.towns(a[0], a[1], a[2]);
            case "image": return plain.image();
            case "restore": return plain.restore();
            case "count": return plain.count(a[0]);
            case "keep": return plain.keep(a[0], a[1], a[2], a[3]);
            case "row": return plain.row(a[0], a[1], a[2]);
            case "put": return plain.put(a[0], a[1], a[2]);
            case "element": return plain.element(a[0], a[1]);
            case "copy": return plain.copy(a[0], a[1], a[2], a[3], a[4]);
            case "cost": return plain.cost(a[0]);
            default: return plain.toss(a[0]);
        }
    }
}
