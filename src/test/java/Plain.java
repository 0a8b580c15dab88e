import java.util.ArrayList;
import java.util.Arrays;
import java.util.HashSet;
import java.util.List;
import java.util.Set;
import java.util.regex.Matcher;
import java.util.regex.Pattern;

/**
 * The same calls once more, written in another way for comparing: objects for all that there is,
 * kinds under kinds, and searches that try everything. Not made to be fast.
 */
final class Plain {
    static class Thing {
        final int kind;
        final int figure;

        Thing(int kind, int figure) {
            this.kind = kind;
            this.figure = figure;
        }

        int worth(int taste, int week) {
            return figure + 2;
        }

        int cost() {
            return 2;
        }

        int failure() {
            return figure == 0 ? -15 : figure;
        }
    }

    static class Silver extends Thing {
        Silver(int kind, int figure) {
            super(kind, figure);
        }

        @Override
        int worth(int taste, int week) {
            return 6 + figure;
        }

        @Override
        int cost() {
            return super.cost() + figure;
        }
    }

    static class Cheese extends Thing {
        Cheese(int kind, int figure) {
            super(kind, figure);
        }

        @Override
        int worth(int taste, int week) {
            return super.worth(taste, week) + taste / 2 - week % 3;
        }

        @Override
        int cost() {
            return super.cost() + 4;
        }

        @Override
        int failure() {
            return figure == 0 ? -15 : super.failure() + 100;
        }
    }

    static class Egg extends Cheese {
        Egg(int kind, int figure) {
            super(kind, figure);
        }

        @Override
        int worth(int taste, int week) {
            return super.worth(taste, week) / 2;
        }

        @Override
        int cost() {
            return super.cost() / 2;
        }
    }

    static class Hen extends Egg {
        Hen(int kind, int figure) {
            super(kind, figure);
        }

        @Override
        int worth(int taste, int week) {
            return super.worth(taste, week) + figure + 3;
        }

        @Override
        int cost() {
            return super.cost() + figure;
        }

        @Override
        int failure() {
            return figure == 0 ? -15 : 200 + cost();
        }
    }

    static class Walk extends Thing {
        Walk(int kind, int figure) {
            super(kind, figure);
        }

        @Override
        int worth(int taste, int week) {
            return taste;
        }

        @Override
        int cost() {
            return 1;
        }

        @Override
        int failure() {
            return -15;
        }
    }

    static class Song extends Walk {
        Song(int kind, int figure) {
            super(kind, figure);
        }

        @Override
        int worth(int taste, int week) {
            int worth = 2 * super.worth(taste, week);
            return week % 2 == 1 && worth > 0 ? worth - 1 : worth;
        }

        @Override
        int cost() {
            return super.cost() + 5;
        }
    }

    static class Grief extends Thing {
        Grief(int kind, int figure) {
            super(kind, figure);
        }

        @Override
        int worth(int taste, int week) {
            return 9 - taste;
        }

        @Override
        int cost() {
            return 0;
        }
    }

    static Thing thing(int kind, int figure) {
        switch (kind) {
            case 0: return new Thing(kind, figure);
            case 1: return new Silver(kind, figure);
            case 2: return new Cheese(kind, figure);
            case 3: return new Walk(kind, figure);
            case 4: return new Song(kind, figure);
            case 5: return new Grief(kind, figure);
            case 6: return new Egg(kind, figure);
            default: return new Hen(kind, figure);
        }
    }

    static final class Loan {
        int lender;
        int debtor;
        int goods;
        boolean open;
    }

    static final class State {
        List<Thing> goods = new ArrayList<>();
        List<Integer> owners = new ArrayList<>();
        List<Integer> tastes = new ArrayList<>();
        List<Loan> loans = new ArrayList<>();
        int[] classes = {0, 1, 2, 3, 4, 5, 6, 7};
        int week;

        State again() {
            State s = new State();
            s.goods.addAll(goods);
            s.owners.addAll(owners);
            s.tastes.addAll(tastes);
            for (Loan l : loans) {
                Loan m = new Loan();
                m.lender = l.lender;
                m.debtor = l.debtor;
                m.goods = l.goods;
                m.open = l.open;
                s.loans.add(m);
            }
            s.classes = classes.clone();
            s.week = week;
            return s;
        }

        boolean isG(int... all) {
            return Arrays.stream(all).allMatch(g -> g >= 0 && g < goods.size());
        }

        boolean isP(int... all) {
            return Arrays.stream(all).allMatch(p -> p >= 0 && p < tastes.size());
        }

        boolean isL(int l) {
            return l >= 0 && l < loans.size();
        }

        int worth(int p, int g) {
            return goods.get(g).worth(tastes.get(p), week);
        }

        boolean would(int p, int x, int y) {
            return classes[goods.get(x).kind] != classes[goods.get(y).kind] && worth(p, y) >= worth(p, x);
        }

        boolean canPay(Loan l, int g) {
            return l.open && owners.get(g) == l.debtor && would(l.lender, l.goods, g);
        }

        long open() {
            return loans.stream().filter(l -> l.open).count();
        }

        void pay(Loan l, int g) {
            owners.set(g, l.lender);
            l.open = false;
        }

        void pass() {
            week++;
            for (Loan l : loans) {
                int best = -1;
                for (int g = 0; g < goods.size(); g++) {
                    if (canPay(l, g) && (best < 0 || worth(l.debtor, g) < worth(l.debtor, best))) {
                        best = g;
                    }
                }
                if (best >= 0) {
                    pay(l, best);
                }
            }
        }

        int wealth(int p) {
            int sum = 0;
            for (int g = 0; g < goods.size(); g++) {
                sum += owners.get(g) == p ? worth(p, g) : 0;
            }
            return sum;
        }

        int allWealth() {
            int sum = 0;
            for (int g = 0; g < goods.size(); g++) {
                sum += worth(owners.get(g), g);
            }
            return sum;
        }

        boolean quarrel(int x, int y) {
            for (int p = 0; p < tastes.size(); p++) {
                for (int q = 0; q < tastes.size(); q++) {
                    if (worth(p, x) > worth(p, y) && worth(q, x) < worth(q, y)) {
                        return true;
                    }
                }
            }
            return false;
        }

        int worst(int p) {
            int best = -4;
            for (int g = goods.size() - 1; g >= 0; g--) {
                if (owners.get(g) == p && (best < 0 || worth(p, g) <= worth(p, best))) {
                    best = g;
                }
            }
            return best;
        }
    }

    State now = new State();
    State kept;
    /** Nothing, a Thing, or a row: byte[], short[], int[]. */
    final Object[] shelves = new Object[8];

    private static boolean shelf(int d) {
        return d >= 0 && d < 8;
    }

    /** The row's numbers; null if there is no row. */
    private long[] numbers(int d) {
        Object o = shelves[d];
        if (o instanceof byte[] b) {
            long[] n = new long[b.length];
            for (int i = 0; i < n.length; i++) {
                n[i] = b[i];
            }
            return n;
        }
        if (o instanceof short[] s) {
            long[] n = new long[s.length];
            for (int i = 0; i < n.length; i++) {
                n[i] = s[i];
            }
            return n;
        }
        return o instanceof int[] v ? Arrays.stream(v).asLongStream().toArray() : null;
    }

    private long least(int d) {
        return shelves[d] instanceof byte[] ? Byte.MIN_VALUE
            : shelves[d] instanceof short[] ? Short.MIN_VALUE : Integer.MIN_VALUE;
    }

    private int rowRefusal(int d) {
        return shelves[d] == null ? -11 : shelves[d] instanceof Thing ? -12 : 0;
    }

    private int thingRefusal(int d) {
        return shelves[d] == null ? -11 : shelves[d] instanceof Thing ? 0 : -12;
    }

    private static final Pattern TEXT = Pattern.compile("(p[0-9];|g[0-9]{3};|[lsw][0-9]{2};)+");

    long town(int d) {
        if (!shelf(d)) {
            return -1;
        }
        if (shelves[d] == null) {
            return -11;
        }
        if (!(shelves[d] instanceof byte[] bytes)) {
            return -12;
        }
        StringBuilder text = new StringBuilder();
        for (byte b : bytes) {
            text.append((char) (b & 255));
            Matcher m = TEXT.matcher(text);
            if (!m.matches() && !m.hitEnd()) {
                return -1000 - (text.length() - 1);
            }
        }
        if (!TEXT.matcher(text).matches()) {
            return -1000 - text.length();
        }
        State before = now;
        now = before.again();
        int place = 0;
        int done = 0;
        for (String s : text.toString().split(";")) {
            int a = s.charAt(1) - '0';
            int b = s.length() > 2 ? s.charAt(2) - '0' : 0;
            int c = s.length() > 3 ? s.charAt(3) - '0' : 0;
            long answer;
            switch (s.charAt(0)) {
                case 'p': answer = comes(a); break;
                case 'g': answer = a > 7 ? -1 : bring(thing(a, b), c); break;
                case 'l': answer = lends(a, b); break;
                case 's': answer = sames(a, b); break;
                default: answer = weeks(Integer.parseInt(s.substring(1)));
            }
            if (answer < 0) {
                now = before;
                return -2000 - place;
            }
            place += s.length() + 1;
            done++;
        }
        return done;
    }

    long good(int g, int what) {
        if (!now.isG(g) || what < 0 || what > 3) {
            return -1;
        }
        Thing t = now.goods.get(g);
        return new int[] {t.kind, t.figure, now.owners.get(g), now.classes[t.kind]}[what];
    }

    long person(int p, int what) {
        if (!now.isP(p) || what < 0 || what > 2) {
            return -1;
        }
        int bits = 0;
        for (int g = 0; g < now.goods.size(); g++) {
            bits += now.owners.get(g) == p ? 1 << g : 0;
        }
        return new int[] {now.tastes.get(p), bits, now.wealth(p)}[what];
    }

    long loan(int l, int what) {
        if (!now.isL(l) || what < 0 || what > 3) {
            return -1;
        }
        Loan a = now.loans.get(l);
        return new int[] {a.lender, a.debtor, a.goods, a.open ? 1 : 0}[what];
    }

    long comes(int taste) {
        if (taste < 0 || taste > 9) {
            return -1;
        }
        if (now.tastes.size() == 6) {
            return -2;
        }
        now.tastes.add(taste);
        return now.tastes.size() - 1;
    }

    private long bring(Thing t, int p) {
        if (!now.isP(p)) {
            return -1;
        }
        if (now.goods.size() == 8) {
            return -2;
        }
        now.goods.add(t);
        now.owners.add(p);
        return now.goods.size() - 1;
    }

    long brings(int d, int p) {
        if (!shelf(d) || !now.isP(p)) {
            return -1;
        }
        return thingRefusal(d) != 0 ? thingRefusal(d) : bring((Thing) shelves[d], p);
    }

    long lends(int g, int p) {
        if (!now.isG(g) || !now.isP(p)) {
            return -1;
        }
        if (now.owners.get(g) == p) {
            return -3;
        }
        if (now.loans.size() == 8) {
            return -2;
        }
        Loan l = new Loan();
        l.lender = now.owners.get(g);
        l.debtor = p;
        l.goods = g;
        l.open = true;
        now.loans.add(l);
        now.owners.set(g, p);
        return now.loans.size() - 1;
    }

    long pays(int l, int g) {
        if (!now.isL(l) || !now.isG(g)) {
            return -1;
        }
        if (!now.canPay(now.loans.get(l), g)) {
            return -3;
        }
        now.pay(now.loans.get(l), g);
        return now.open();
    }

    long sames(int a, int b) {
        if (a < 0 || a > 7 || b < 0 || b > 7) {
            return -1;
        }
        int was = now.classes[b];
        now.classes[b] = now.classes[a];
        return was;
    }

    long weeks(int n) {
        if (n < 1 || n > 60) {
            return -1;
        }
        if (now.week + n > 999) {
            return -3;
        }
        for (int i = 0; i < n; i++) {
            now.pass();
        }
        return now.open();
    }

    long worth(int p, int g) {
        return now.isP(p) && now.isG(g) ? now.worth(p, g) : -1;
    }

    long would(int p, int x, int y) {
        return now.isP(p) && now.isG(x, y) ? now.would(p, x, y) ? 1 : 0 : -1;
    }

    long takes(int p, int x) {
        if (!now.isP(p) || !now.isG(x)) {
            return -1;
        }
        long bits = 0;
        for (int y = 0; y < now.goods.size(); y++) {
            bits += now.would(p, x, y) ? 1 << y : 0;
        }
        return bits;
    }

    long canPay(int l) {
        if (!now.isL(l)) {
            return -1;
        }
        long bits = 0;
        for (int y = 0; y < now.goods.size(); y++) {
            bits += now.canPay(now.loans.get(l), y) ? 1 << y : 0;
        }
        return bits;
    }

    long bestPayment(int l) {
        if (!now.isL(l)) {
            return -1;
        }
        int best = -4;
        Loan a = now.loans.get(l);
        for (int g = now.goods.size() - 1; g >= 0; g--) {
            if (now.canPay(a, g) && (best < 0 || now.worth(a.lender, g) >= now.worth(a.lender, best))) {
                best = g;
            }
        }
        return best;
    }

    private State then(int n) {
        State s = now.again();
        for (int i = 0; i < n; i++) {
            s.pass();
        }
        return s;
    }

    long hasThen(int g, int n) {
        return now.isG(g) && n >= 0 && n <= 60 ? then(n).owners.get(g) : -1;
    }

    long openThen(int n) {
        return n >= 0 && n <= 60 ? then(n).open() : -1;
    }

    long cleared() {
        State s = now.again();
        for (int n = 0; n <= 60; n++, s.pass()) {
            if (s.open() == 0) {
                return n;
            }
        }
        return -4;
    }

    long richest() {
        int best = -4;
        for (int p = now.tastes.size() - 1; p >= 0; p--) {
            if (best < 0 || now.wealth(p) >= now.wealth(best)) {
                best = p;
            }
        }
        return best;
    }

    long worst(int p) {
        return now.isP(p) ? now.worst(p) : -1;
    }

    /** The first chain of so many steps by least numbers; null if there is none. */
    private int[] chainOf(int p, int x, int y, int steps) {
        if (steps == 0) {
            return x == y ? new int[] {x} : null;
        }
        for (int g = 0; g < now.goods.size(); g++) {
            if (now.would(p, x, g)) {
                int[] rest = chainOf(p, g, y, steps - 1);
                if (rest != null) {
                    int[] all = new int[rest.length + 1];
                    all[0] = x;
                    System.arraycopy(rest, 0, all, 1, rest.length);
                    return all;
                }
            }
        }
        return null;
    }

    private int[] shortestChain(int p, int x, int y) {
        // A shortest chain has at most two steps (a class is left, and come back to at most), so
        // four are enough to be sure.
        for (int steps = 0; steps <= 4; steps++) {
            int[] c = chainOf(p, x, y, steps);
            if (c != null) {
                return c;
            }
        }
        return null;
    }

    long chain(int p, int x, int y, int what) {
        if (!now.isP(p) || !now.isG(x, y) || what < 0 || what > 1) {
            return -1;
        }
        int[] c = shortestChain(p, x, y);
        if (c == null) {
            return -4;
        }
        return what == 0 ? c.length - 1 : c.length > 1 ? c[1] : -4;
    }

    long climb(int p, int x) {
        if (!now.isP(p) || !now.isG(x)) {
            return -1;
        }
        int most = 0;
        for (int g = 0; g < now.goods.size(); g++) {
            if (shortestChain(p, x, g) != null) {
                most = Math.max(most, now.worth(p, g) - now.worth(p, x));
            }
        }
        return most;
    }

    private int bestPaid;
    private int[] bestPayments;

    private void tryPayments(int[] payments, int l, int paid, Set<Integer> used) {
        if (l == payments.length) {
            if (paid > bestPaid) {
                bestPaid = paid;
                bestPayments = payments.clone();
            }
            return;
        }
        for (int g = 0; g < now.goods.size(); g++) {
            if (now.canPay(now.loans.get(l), g) && used.add(g)) {
                payments[l] = g;
                tryPayments(payments, l + 1, paid + 1, used);
                used.remove(g);
            }
        }
        payments[l] = -4;
        tryPayments(payments, l + 1, paid, used);
    }

    long clearing(int l) {
        if (l != -1 && !now.isL(l)) {
            return -1;
        }
        bestPaid = -1;
        tryPayments(new int[now.loans.size()], 0, 0, new HashSet<>());
        return l == -1 ? bestPaid : bestPayments[l];
    }

    long quarrel(int x, int y) {
        return now.isG(x, y) && x != y ? now.quarrel(x, y) ? 1 : 0 : -1;
    }

    private int fewest;
    private int[] fewestClasses;

    private void tryClasses(int[] classes, int k, int inUse, long[] told) {
        if (k < 8) {
            for (int c = 0; c <= inUse; c++) {
                classes[k] = c;
                tryClasses(classes, k + 1, Math.max(inUse, c + 1), told);
            }
            return;
        }
        for (int i = 0; i < told.length; i += 3) {
            if (classes[(int) told[i]] == classes[(int) told[i + 1]] != (told[i + 2] == 1)) {
                return;
            }
        }
        if (fewest < 0 || inUse < fewest) {
            fewest = inUse;
            fewestClasses = classes.clone();
        }
    }

    long shortest(int d, int k) {
        if (!shelf(d) || k < -1 || k > 7) {
            return -1;
        }
        if (rowRefusal(d) != 0) {
            return rowRefusal(d);
        }
        long[] told = numbers(d);
        if (told.length % 3 != 0) {
            return -13;
        }
        for (int i = 0; i < told.length; i++) {
            if (told[i] < 0 || told[i] > (i % 3 == 2 ? 1 : 7)) {
                return -13;
            }
        }
        fewest = -4;
        tryClasses(new int[8], 0, 0, told);
        return k == -1 || fewest < 0 ? fewest : fewestClasses[k];
    }

    long lent(int d, int p, int what) {
        if (!shelf(d) || !now.isP(p) || what < 0 || what > 1) {
            return -1;
        }
        if (rowRefusal(d) != 0) {
            return rowRefusal(d);
        }
        long[] told = numbers(d);
        if (Arrays.stream(told).anyMatch(g -> g < 0 || g >= now.goods.size())) {
            return -13;
        }
        int bits = 0;
        for (int g = 0; g < now.goods.size(); g++) {
            int x = g;
            boolean told1 = Arrays.stream(told).anyMatch(y -> y == x);
            if (!told1 && Arrays.stream(told).allMatch(y -> now.would(p, x, (int) y))) {
                bits |= 1 << g;
            }
        }
        return what == 0 ? bits : Integer.bitCount(bits);
    }

    long whatIs(int d, int p, int g, int what) {
        if (!shelf(d) || !now.isP(p) || !now.isG(g) || what < 0 || what > 1) {
            return -1;
        }
        if (rowRefusal(d) != 0) {
            return rowRefusal(d);
        }
        long[] told = numbers(d);
        int bits = 0;
        for (int k = 0; k < (what == 0 ? 8 : 10); k++) {
            Thing t = now.goods.get(g);
            Thing other = what == 0 ? thing(k, t.figure) : thing(t.kind, k);
            boolean so = true;
            for (int i = 0; i < told.length; i++) {
                so &= told[i] == least(d) || told[i] == other.worth(now.tastes.get(p), now.week + i);
            }
            bits |= so ? 1 << k : 0;
        }
        return bits;
    }

    long tastes(int d, int p) {
        if (!shelf(d) || !now.isP(p)) {
            return -1;
        }
        if (rowRefusal(d) != 0) {
            return rowRefusal(d);
        }
        long[] told = numbers(d);
        if (told.length > now.goods.size()) {
            return -13;
        }
        int bits = 0;
        for (int taste = 0; taste < 10; taste++) {
            boolean so = true;
            for (int i = 0; i < told.length; i++) {
                so &= told[i] == least(d) || told[i] == now.goods.get(i).worth(taste, now.week);
            }
            bits |= so ? 1 << taste : 0;
        }
        return bits;
    }

    long two(int a, int b) {
        if (!now.isP(a, b) || a == b) {
            return -1;
        }
        int ga = now.worst(a);
        int gb = now.worst(b);
        if (ga < 0 || gb < 0) {
            return -3;
        }
        int lendsA = 3 - now.worth(a, ga) / 2;
        int lendsB = 3 - now.worth(b, gb) / 2;
        int lentA = now.worth(a, gb);
        int lentB = now.worth(b, ga);
        int[] ofA = {0, lentA, lendsA, lendsA + lentA / 2};
        int[] ofB = {0, lendsB, lentB, lendsB + lentB / 2};
        for (int i = 0; i < 4; i++) {
            if (ofA[i] >= ofA[i ^ 2] && ofB[i] >= ofB[i ^ 1]) {
                return new int[] {0, 1, 10, 11}[i];
            }
        }
        return -4;
    }

    private static long lowest(long above, long below, int part) {
        for (long f = 2; f <= Math.max(above, 1) && f <= below; f++) {
            while (above % f == 0 && below % f == 0) {
                above /= f;
                below /= f;
            }
        }
        return part == 0 ? above : above == 0 ? 1 : below;
    }

    long market(int p, int x, int t, int part) {
        if (!now.isP(p) || !now.isG(x) || t < 2 || t > 20 || part < 0 || part > 1) {
            return 1000000001L;
        }
        // above by below is how likely somebody is there; then one more comes with 1 in t.
        long above = 0;
        long below = 1;
        for (int q = 0; q < now.tastes.size(); q++) {
            boolean has = false;
            for (int g = 0; g < now.goods.size(); g++) {
                has |= now.owners.get(g) == q && now.would(p, x, g);
            }
            if (q != p && has) {
                above = above * t + (below - above);
                below *= t;
            }
        }
        // Its only divisors could be those of t.
        for (long f = 2; f <= t; f++) {
            while (above % f == 0 && below % f == 0 && above > 0) {
                above /= f;
                below /= f;
            }
        }
        return part == 0 ? above : below;
    }

    long mean(int p, int part) {
        if (!now.isP(p) || part < 0 || part > 1) {
            return 1000000001L;
        }
        long sum = 0;
        for (int g = 0; g < now.goods.size(); g++) {
            sum += now.worth(p, g);
        }
        return now.goods.isEmpty() ? part : lowest(sum, now.goods.size(), part);
    }

    long forged(int d, int p) {
        if (!shelf(d) || !now.isP(p)) {
            return -1;
        }
        if (rowRefusal(d) != 0) {
            return rowRefusal(d);
        }
        long[] told = numbers(d);
        for (int i = 0; i < told.length; i++) {
            boolean is = told[i] >= 0 && told[i] < now.goods.size();
            if (!is || i > 0 && !now.would(p, (int) told[i - 1], (int) told[i])) {
                return i;
            }
        }
        return -4;
    }

    long judge(int d) {
        if (!shelf(d)) {
            return -1;
        }
        if (rowRefusal(d) != 0) {
            return rowRefusal(d);
        }
        long[] told = numbers(d);
        for (int i = 0; i < told.length; i++) {
            if (told[i] != least(d) && told[i] != then(i).open()) {
                return i;
            }
        }
        return -4;
    }

    private long z;

    /** z times 1103515245 plus 12345 with its lowest 32 bits, as a number without sign. */
    private int draw(int n) {
        z = (z * 1103515245L + 12345L) & 0xffffffffL;
        return (int) (z % 2147483648L / 65536L % n);
    }

    long towns(int n, int seed, int what) {
        if (n < 1 || n > 20 || what < 0 || what > 1) {
            return -1;
        }
        if (now.tastes.isEmpty()) {
            return -3;
        }
        z = seed & 0xffffffffL;
        long sum = 0;
        for (int i = 0; i < n; i++) {
            State s = now.again();
            for (int g = 0; g < s.goods.size(); g++) {
                s.owners.set(g, draw(s.tastes.size()));
            }
            for (int p = 0; p < s.tastes.size(); p++) {
                s.tastes.set(p, draw(10));
            }
            if (what == 1) {
                sum += s.allWealth();
                continue;
            }
            for (int x = 0; x < s.goods.size(); x++) {
                for (int y = 0; y < x; y++) {
                    sum += s.quarrel(x, y) ? 1 : 0;
                }
            }
        }
        return sum;
    }

    long image() {
        kept = now.again();
        return now.week;
    }

    long restore() {
        if (kept == null) {
            return -3;
        }
        now = kept.again();
        return now.week;
    }

    long count(int what) {
        switch (what) {
            case 0: return now.goods.size();
            case 1: return now.tastes.size();
            case 2: return now.loans.size();
            case 3:
                long bits = 0;
                for (int l = 0; l < now.loans.size(); l++) {
                    bits += now.loans.get(l).open ? 1 << l : 0;
                }
                return bits;
            case 4: return now.week;
            case 5: return Arrays.stream(now.classes).distinct().count();
            case 6: return now.allWealth();
            default: return -1;
        }
    }

    long keep(int d, int what, int k, int figure) {
        if (!shelf(d) || what != 0 && what != 1) {
            return -1;
        }
        if (what == 1 && (k < 0 || k > 7 || figure < 0 || figure > 9)) {
            return -1;
        }
        shelves[d] = what == 0 ? null : thing(k, figure);
        return 0;
    }

    long row(int d, int sort, int n) {
        if (!shelf(d) || sort < 0 || sort > 2 || n > 100) {
            return -1;
        }
        if (n < 0) {
            return -14;
        }
        shelves[d] = sort == 0 ? new byte[n] : sort == 1 ? new short[n] : new int[n];
        return 0;
    }

    long put(int d, int i, int v) {
        if (!shelf(d)) {
            return -1;
        }
        if (rowRefusal(d) != 0) {
            return rowRefusal(d);
        }
        if (i < 0 || i >= numbers(d).length) {
            return -13;
        }
        if (shelves[d] instanceof byte[] b) {
            b[i] = (byte) v;
        } else if (shelves[d] instanceof short[] s) {
            s[i] = (short) v;
        } else if (shelves[d] instanceof int[] w) {
            w[i] = v;
        }
        return 0;
    }

    /** Long.MIN_VALUE for IllegalArgumentException, one more for IllegalStateException. */
    long element(int d, int i) {
        if (!shelf(d)) {
            return Long.MIN_VALUE;
        }
        long[] numbers = numbers(d);
        return numbers == null || i < 0 || i >= numbers.length ? Long.MIN_VALUE + 1 : numbers[i];
    }

    @SuppressWarnings("SuspiciousSystemArraycopy")
    long copy(int d, int i, int e, int j, int n) {
        if (!shelf(d) || !shelf(e)) {
            return -1;
        }
        if (shelves[d] == null || shelves[e] == null) {
            return -11;
        }
        if (rowRefusal(d) != 0 || rowRefusal(e) != 0 || shelves[d].getClass() != shelves[e].getClass()) {
            return -12;
        }
        try {
            System.arraycopy(shelves[d], i, shelves[e], j, n);
        } catch (IndexOutOfBoundsException x) {
            return -13;
        }
        return n;
    }

    long cost(int d) {
        return !shelf(d) ? -1 : thingRefusal(d) != 0 ? thingRefusal(d) : ((Thing) shelves[d]).cost();
    }

    long toss(int d) {
        return !shelf(d) ? -1 : thingRefusal(d) != 0 ? thingRefusal(d) : ((Thing) shelves[d]).failure();
    }
}
