/**
 * A town where what one borrows may be paid back in anything but that.
 * Bits of goods, loans, kinds, figures and tastes: bit i (1 << i) stands for number i.
 */
public final class NotInTheCoin {
    private static final int THING = 0;
    private static final int SILVER = 1;
    private static final int CHEESE = 2;
    private static final int WALK = 3;
    private static final int SONG = 4;
    private static final int GRIEF = 5;
    private static final int EGG = 6;
    private static final int HEN = 7;

    private static final int KINDS = 8;
    private static final int FIGURES = 10;
    private static final int TASTES = 10;
    private static final int MOST_GOODS = 8;
    private static final int MOST_PEOPLE = 6;
    private static final int MOST_LOANS = 8;
    private static final int LAST_WEEK = 999;
    private static final int WEEKS_AT_ONCE = 60;
    private static final int SHELVES = 8;
    private static final int MOST_ELEMENTS = 100;
    private static final int MOST_TOWNS = 20;
    private static final int LEAST_ODDS = 2;
    private static final int MOST_ODDS = 20;

    private static final int HOLDS_NOTHING = 0;
    private static final int HOLDS_THING = 1;
    private static final int HOLDS_ROW = 2;
    private static final int BYTES = 0;
    private static final int SHORTS = 1;
    private static final int INTS = 2;

    private static final int NO_SUCH = -1;
    private static final int NO_ROOM = -2;
    private static final int NOT_SO = -3;
    private static final int NONE = -4;
    private static final int NOTHING_HELD = -11;
    private static final int OTHER_KIND = -12;
    private static final int NO_PLACE = -13;
    private static final int BELOW_ZERO = -14;
    private static final int NO_FAILURE = -15;
    private static final long NO_SUCH_LONG = 1000000001L;
    private static final int BAD_BYTE = -1000;
    private static final int BAD_STATEMENT = -2000;

    private static final int MOST_WORTH = 1;
    private static final int LEAST_WORTH = -1;

    private final Town now;
    /** For weeks in mind, texts on trial and drawn towns: each call makes it anew. */
    private final Town mind;
    private final Town kept;
    private boolean isKept;
    private final Shelf[] shelves;
    private final Steps steps;
    private final Settling settling;
    private final ShortList shortList;
    private int seed;

    public NotInTheCoin() {
        now = new Town();
        mind = new Town();
        kept = new Town();
        shelves = new Shelf[SHELVES];
        for (int d = 0; d < SHELVES; d++) {
            shelves[d] = new Shelf();
        }
        steps = new Steps();
        settling = new Settling();
        shortList = new ShortList();
    }

    // ---- the town as told

    public int town(int d) {
        if (!isShelf(d)) {
            return NO_SUCH;
        }
        int refusal = shelves[d].refusal(HOLDS_ROW);
        if (refusal != 0) {
            return refusal;
        }
        Shelf text = shelves[d];
        if (text.sort != BYTES) {
            return OTHER_KIND;
        }
        int place = badPlace(text);
        if (place >= 0) {
            return BAD_BYTE - place;
        }
        mind.become(now);
        int done = 0;
        for (int at = 0; at < text.size; at += digitsBehind(text.cells[at]) + 2) {
            if (perform(text, at) < 0) {
                return BAD_STATEMENT - at;
            }
            done++;
        }
        now.become(mind);
        return done;
    }

    public int good(int g, int what) {
        if (!now.isGoods(g)) {
            return NO_SUCH;
        }
        switch (what) {
            case 0:
                return now.kindOf[g];
            case 1:
                return now.figureOf[g];
            case 2:
                return now.ownerOf[g];
            case 3:
                return now.classOf[now.kindOf[g]];
            default:
                return NO_SUCH;
        }
    }

    public int person(int p, int what) {
        if (!now.isPerson(p)) {
            return NO_SUCH;
        }
        switch (what) {
            case 0:
                return now.tasteOf[p];
            case 1:
                return now.goodsHad(p);
            case 2:
                return now.wealth(p);
            default:
                return NO_SUCH;
        }
    }

    public int loan(int l, int what) {
        if (!now.isLoan(l)) {
            return NO_SUCH;
        }
        switch (what) {
            case 0:
                return now.lenderOf[l];
            case 1:
                return now.debtorOf[l];
            case 2:
                return now.goodsOf[l];
            case 3:
                return has(now.open, l) ? 1 : 0;
            default:
                return NO_SUCH;
        }
    }

    public int comes(int taste) {
        return now.addPerson(taste);
    }

    public int brings(int d, int p) {
        if (!isShelf(d) || !now.isPerson(p)) {
            return NO_SUCH;
        }
        int refusal = shelves[d].refusal(HOLDS_THING);
        if (refusal != 0) {
            return refusal;
        }
        return now.addGoods(shelves[d].kind, shelves[d].figure, p);
    }

    public int lends(int g, int p) {
        return now.addLoan(g, p);
    }

    public int pays(int l, int g) {
        if (!now.isLoan(l) || !now.isGoods(g)) {
            return NO_SUCH;
        }
        if (!has(now.payers(l), g)) {
            return NOT_SO;
        }
        now.settle(l, g);
        return Integer.bitCount(now.open);
    }

    public int sames(int a, int b) {
        return now.liken(a, b);
    }

    public int weeks(int n) {
        return now.passWeeks(n);
    }

    // ---- worth, payments

    public int worth(int p, int g) {
        if (!now.isPerson(p) || !now.isGoods(g)) {
            return NO_SUCH;
        }
        return now.worthTo(p, g);
    }

    public int would(int p, int x, int y) {
        if (!now.isPerson(p) || !now.isGoods(x) || !now.isGoods(y)) {
            return NO_SUCH;
        }
        return now.isTaken(p, x, y) ? 1 : 0;
    }

    public int takes(int p, int x) {
        if (!now.isPerson(p) || !now.isGoods(x)) {
            return NO_SUCH;
        }
        return now.takenFor(p, x);
    }

    public int canPay(int l) {
        if (!now.isLoan(l)) {
            return NO_SUCH;
        }
        return now.payers(l);
    }

    public int bestPayment(int l) {
        if (!now.isLoan(l)) {
            return NO_SUCH;
        }
        return now.choice(now.lenderOf[l], now.payers(l), MOST_WORTH);
    }

    public int hasThen(int g, int n) {
        if (!now.isGoods(g) || n < 0 || n > WEEKS_AT_ONCE) {
            return NO_SUCH;
        }
        imagineWeeks(n);
        return mind.ownerOf[g];
    }

    public int openThen(int n) {
        if (n < 0 || n > WEEKS_AT_ONCE) {
            return NO_SUCH;
        }
        imagineWeeks(n);
        return Integer.bitCount(mind.open);
    }

    public int cleared() {
        mind.become(now);
        for (int n = 0; n <= WEEKS_AT_ONCE; n++) {
            if (mind.open == 0) {
                return n;
            }
            mind.passWeek();
        }
        return NONE;
    }

    public int richest() {
        int best = NONE;
        int most = -1;
        for (int p = 0; p < now.people; p++) {
            int wealth = now.wealth(p);
            if (wealth > most) {
                best = p;
                most = wealth;
            }
        }
        return best;
    }

    public int worst(int p) {
        if (!now.isPerson(p)) {
            return NO_SUCH;
        }
        return now.choice(p, now.goodsHad(p), LEAST_WORTH);
    }

    // ---- chains, clearing

    public int chain(int p, int x, int y, int what) {
        if (!now.isPerson(p) || !now.isGoods(x) || !now.isGoods(y) || what < 0 || what > 1) {
            return NO_SUCH;
        }
        steps.look(now, p);
        steps.countTo(y);
        return what == 0 ? steps.left[x] : steps.firstFrom(x);
    }

    public int climb(int p, int x) {
        if (!now.isPerson(p) || !now.isGoods(x)) {
            return NO_SUCH;
        }
        steps.look(now, p);
        int top = now.choice(p, steps.reachedFrom(x), MOST_WORTH);
        return top < 0 ? 0 : now.worthTo(p, top) - now.worthTo(p, x);
    }

    public int clearing(int l) {
        if (l != -1 && !now.isLoan(l)) {
            return NO_SUCH;
        }
        settling.look(now);
        return l == -1 ? mostPaid(settling, 0, 0) : settling.payment(l);
    }

    public int quarrel(int x, int y) {
        if (!now.isGoods(x) || !now.isGoods(y) || x == y) {
            return NO_SUCH;
        }
        return now.isQuarrel(x, y) ? 1 : 0;
    }

    public int shortest(int d, int k) {
        if (!isShelf(d) || k < -1 || k >= KINDS) {
            return NO_SUCH;
        }
        int refusal = shelves[d].refusal(HOLDS_ROW);
        if (refusal != 0) {
            return refusal;
        }
        if (!tellsSames(shelves[d])) {
            return NO_PLACE;
        }
        int fewest = shortList.fewest(shelves[d]);
        if (fewest < 0 || k == -1) {
            return fewest;
        }
        return shortList.classOf[k];
    }

    // ---- what was lent, what it is

    public int lent(int d, int p, int what) {
        if (!isShelf(d) || !now.isPerson(p) || what < 0 || what > 1) {
            return NO_SUCH;
        }
        int refusal = shelves[d].refusal(HOLDS_ROW);
        if (refusal != 0) {
            return refusal;
        }
        if (!tellsGoods(shelves[d])) {
            return NO_PLACE;
        }
        int taken = bitsOf(shelves[d]);
        int bits = 0;
        for (int g = 0; g < now.goods; g++) {
            if ((now.takenFor(p, g) & taken) == taken) {
                bits |= 1 << g;
            }
        }
        return what == 0 ? bits : Integer.bitCount(bits);
    }

    public int whatIs(int d, int p, int g, int what) {
        if (!isShelf(d) || !now.isPerson(p) || !now.isGoods(g) || what < 0 || what > 1) {
            return NO_SUCH;
        }
        int refusal = shelves[d].refusal(HOLDS_ROW);
        if (refusal != 0) {
            return refusal;
        }
        int bits = 0;
        int tried = what == 0 ? KINDS : FIGURES;
        for (int i = 0; i < tried; i++) {
            int kind = what == 0 ? i : now.kindOf[g];
            int figure = what == 0 ? now.figureOf[g] : i;
            if (isWorthAsTold(shelves[d], kind, figure, now.tasteOf[p])) {
                bits |= 1 << i;
            }
        }
        return bits;
    }

    public int tastes(int d, int p) {
        if (!isShelf(d) || !now.isPerson(p)) {
            return NO_SUCH;
        }
        int refusal = shelves[d].refusal(HOLDS_ROW);
        if (refusal != 0) {
            return refusal;
        }
        if (shelves[d].size > now.goods) {
            return NO_PLACE;
        }
        int bits = 0;
        for (int taste = 0; taste < TASTES; taste++) {
            if (isTasteAsTold(shelves[d], taste)) {
                bits |= 1 << taste;
            }
        }
        return bits;
    }

    public int two(int a, int b) {
        if (!now.isPerson(a) || !now.isPerson(b) || a == b) {
            return NO_SUCH;
        }
        int worstOfA = now.choice(a, now.goodsHad(a), LEAST_WORTH);
        int worstOfB = now.choice(b, now.goodsHad(b), LEAST_WORTH);
        if (worstOfA < 0 || worstOfB < 0) {
            return NOT_SO;
        }
        for (int first = 0; first <= 1; first++) {
            for (int second = 0; second <= 1; second++) {
                if (isContent(a, worstOfA, worstOfB, first, second)
                        && isContent(b, worstOfB, worstOfA, second, first)) {
                    return 10 * first + second;
                }
            }
        }
        return NONE;
    }

    public long market(int p, int x, int t, int part) {
        if (!now.isPerson(p) || !now.isGoods(x) || t < LEAST_ODDS || t > MOST_ODDS
                || part < 0 || part > 1) {
            return NO_SUCH_LONG;
        }
        int wanted = now.takenFor(p, x);
        long all = 1;
        long without = 1;
        for (int q = 0; q < now.people; q++) {
            if (q != p && (now.goodsHad(q) & wanted) != 0) {
                all *= t;
                without *= t - 1;
            }
        }
        return partOf(all - without, all, part);
    }

    public long mean(int p, int part) {
        if (!now.isPerson(p) || part < 0 || part > 1) {
            return NO_SUCH_LONG;
        }
        long sum = 0;
        for (int g = 0; g < now.goods; g++) {
            sum += now.worthTo(p, g);
        }
        return partOf(sum, now.goods > 0 ? now.goods : 1, part);
    }

    // ---- told chains, towns by seeds

    public int forged(int d, int p) {
        if (!isShelf(d) || !now.isPerson(p)) {
            return NO_SUCH;
        }
        int refusal = shelves[d].refusal(HOLDS_ROW);
        if (refusal != 0) {
            return refusal;
        }
        Shelf told = shelves[d];
        for (int i = 0; i < told.size; i++) {
            if (!now.isGoods(told.cells[i])) {
                return i;
            }
            if (i > 0 && !now.isTaken(p, told.cells[i - 1], told.cells[i])) {
                return i;
            }
        }
        return NONE;
    }

    public int judge(int d) {
        if (!isShelf(d)) {
            return NO_SUCH;
        }
        int refusal = shelves[d].refusal(HOLDS_ROW);
        if (refusal != 0) {
            return refusal;
        }
        Shelf told = shelves[d];
        mind.become(now);
        for (int i = 0; i < told.size; i++) {
            if (!told.isSkipped(i) && told.cells[i] != Integer.bitCount(mind.open)) {
                return i;
            }
            mind.passWeek();
        }
        return NONE;
    }

    public int towns(int n, int z, int what) {
        if (n < 1 || n > MOST_TOWNS || what < 0 || what > 1) {
            return NO_SUCH;
        }
        if (now.people == 0) {
            return NOT_SO;
        }
        seed = z;
        int sum = 0;
        for (int i = 0; i < n; i++) {
            drawTown();
            sum += what == 0 ? mind.allQuarrels() : mind.allWealth();
        }
        return sum;
    }

    // ---- the image, what is told

    public int image() {
        kept.become(now);
        isKept = true;
        return now.week;
    }

    public int restore() {
        if (!isKept) {
            return NOT_SO;
        }
        now.become(kept);
        return now.week;
    }

    public int count(int what) {
        switch (what) {
            case 0:
                return now.goods;
            case 1:
                return now.people;
            case 2:
                return now.loans;
            case 3:
                return now.open;
            case 4:
                return now.week;
            case 5:
                return now.classes();
            case 6:
                return now.allWealth();
            default:
                return NO_SUCH;
        }
    }

    // ---- shelves

    public int keep(int d, int what, int k, int figure) {
        if (!isShelf(d) || what < 0 || what > 1) {
            return NO_SUCH;
        }
        if (what == 0) {
            shelves[d].holds = HOLDS_NOTHING;
            return 0;
        }
        if (!isKind(k) || !isFigure(figure)) {
            return NO_SUCH;
        }
        shelves[d].holdThing(k, figure);
        return 0;
    }

    public int row(int d, int sort, int n) {
        if (!isShelf(d) || sort < BYTES || sort > INTS || n > MOST_ELEMENTS) {
            return NO_SUCH;
        }
        if (n < 0) {
            return BELOW_ZERO;
        }
        shelves[d].holdRow(sort, n);
        return 0;
    }

    public int put(int d, int i, int v) {
        if (!isShelf(d)) {
            return NO_SUCH;
        }
        int refusal = shelves[d].refusal(HOLDS_ROW);
        if (refusal != 0) {
            return refusal;
        }
        if (!shelves[d].isPlace(i)) {
            return NO_PLACE;
        }
        shelves[d].fill(i, v);
        return 0;
    }

    public long element(int d, int i) throws IllegalArgumentException, IllegalStateException {
        if (!isShelf(d)) {
            throw new IllegalArgumentException("no such shelf");
        }
        if (shelves[d].refusal(HOLDS_ROW) != 0) {
            throw new IllegalStateException("no row");
        }
        if (!shelves[d].isPlace(i)) {
            throw new IllegalStateException("no such place");
        }
        return shelves[d].cells[i];
    }

    public int copy(int d, int i, int e, int j, int n) {
        if (!isShelf(d) || !isShelf(e)) {
            return NO_SUCH;
        }
        Shelf from = shelves[d];
        Shelf to = shelves[e];
        if (from.holds == HOLDS_NOTHING || to.holds == HOLDS_NOTHING) {
            return NOTHING_HELD;
        }
        if (from.holds != HOLDS_ROW || to.holds != HOLDS_ROW || from.sort != to.sort) {
            return OTHER_KIND;
        }
        if (!from.isStretch(i, n) || !to.isStretch(j, n)) {
            return NO_PLACE;
        }
        System.arraycopy(from.cells, i, to.cells, j, n);
        return n;
    }

    public int cost(int d) {
        if (!isShelf(d)) {
            return NO_SUCH;
        }
        int refusal = shelves[d].refusal(HOLDS_THING);
        if (refusal != 0) {
            return refusal;
        }
        return costOf(shelves[d].kind, shelves[d].figure);
    }

    public int toss(int d) {
        if (!isShelf(d)) {
            return NO_SUCH;
        }
        int refusal = shelves[d].refusal(HOLDS_THING);
        if (refusal != 0) {
            return refusal;
        }
        int kind = shelves[d].kind;
        int figure = shelves[d].figure;
        try {
            fail(kind, figure);
        } catch (UnsupportedOperationException failureOfHen) {
            return 200 + costOf(kind, figure);
        } catch (IllegalStateException failureOfCheese) {
            return 100 + figure;
        } catch (IllegalArgumentException failure) {
            return figure;
        }
        return NO_FAILURE;
    }

    // ---- kinds of goods

    private static int worthOf(int kind, int figure, int taste, int week) {
        int thing = figure + 2;
        int cheese = thing + taste / 2 - week % 3;
        int egg = cheese / 2;
        int walk = taste;
        int song = 2 * walk - week % 2;
        switch (kind) {
            case SILVER:
                return 6 + figure;
            case CHEESE:
                return cheese;
            case WALK:
                return walk;
            case SONG:
                return song < 0 ? 0 : song;
            case GRIEF:
                return 9 - taste;
            case EGG:
                return egg;
            case HEN:
                return egg + figure + 3;
            default:
                return thing;
        }
    }

    private static int costOf(int kind, int figure) {
        int thing = 2;
        int cheese = thing + 4;
        int egg = cheese / 2;
        int walk = 1;
        switch (kind) {
            case SILVER:
                return thing + figure;
            case CHEESE:
                return cheese;
            case WALK:
                return walk;
            case SONG:
                return walk + 5;
            case GRIEF:
                return 0;
            case EGG:
                return egg;
            case HEN:
                return egg + figure;
            default:
                return thing;
        }
    }

    /** Throws the failure, if there is one: the class of what is thrown tells whose it is. */
    private static void fail(int kind, int figure) {
        if (figure == 0 || kind == WALK || kind == SONG) {
            return;
        }
        if (kind == HEN) {
            throw new UnsupportedOperationException("a hen's");
        }
        if (kind == CHEESE || kind == EGG) {
            throw new IllegalStateException("a cheese's");
        }
        throw new IllegalArgumentException("a thing's");
    }

    private static boolean isKind(int k) {
        return k >= THING && k <= HEN;
    }

    private static boolean isFigure(int figure) {
        return figure >= 0 && figure < FIGURES;
    }

    private static boolean has(int bits, int i) {
        return (bits >> i & 1) == 1;
    }

    // ---- what shelves hold

    private static boolean isShelf(int d) {
        return d >= 0 && d < SHELVES;
    }

    private static boolean tellsSames(Shelf row) {
        if (row.size % 3 != 0) {
            return false;
        }
        for (int i = 0; i + 2 < row.size; i += 3) {
            int same = row.cells[i + 2];
            if (!isKind(row.cells[i]) || !isKind(row.cells[i + 1]) || same < 0 || same > 1) {
                return false;
            }
        }
        return true;
    }

    private boolean tellsGoods(Shelf row) {
        for (int i = 0; i < row.size; i++) {
            if (!now.isGoods(row.cells[i])) {
                return false;
            }
        }
        return true;
    }

    // ---- the text of a town

    /** The first place with which no town can go on; -1 if the form is right. */
    private static int badPlace(Shelf text) {
        if (text.size == 0) {
            return 0;
        }
        int at = 0;
        while (at < text.size) {
            int digits = digitsBehind(text.cells[at]);
            if (digits == 0) {
                return at;
            }
            int end = at + digits + 1;
            for (int i = at + 1; i <= end; i++) {
                if (i >= text.size) {
                    return text.size;
                }
                boolean fits = i < end ? isDigit(text.cells[i]) : text.cells[i] == ';';
                if (!fits) {
                    return i;
                }
            }
            at = end + 1;
        }
        return -1;
    }

    private static int digitsBehind(int letter) {
        switch (letter) {
            case 'p':
                return 1;
            case 'l':
            case 's':
            case 'w':
                return 2;
            case 'g':
                return 3;
            default:
                return 0;
        }
    }

    private static boolean isDigit(int sign) {
        return sign >= '0' && sign <= '9';
    }

    /** In mind, so that a later fault leaves what there is untouched. */
    private int perform(Shelf text, int at) {
        int first = text.digit(at + 1);
        int second = text.digit(at + 2);
        switch (text.cells[at]) {
            case 'p':
                return mind.addPerson(first);
            case 'g':
                return mind.addGoods(first, second, text.digit(at + 3));
            case 'l':
                return mind.addLoan(first, second);
            case 's':
                return mind.liken(first, second);
            default:
                return mind.passWeeks(10 * first + second);
        }
    }

    // ---- in mind

    private void imagineWeeks(int n) {
        mind.become(now);
        for (int i = 0; i < n; i++) {
            mind.passWeek();
        }
    }

    private void drawTown() {
        mind.become(now);
        for (int g = 0; g < mind.goods; g++) {
            mind.ownerOf[g] = draw(mind.people);
        }
        for (int p = 0; p < mind.people; p++) {
            mind.tasteOf[p] = draw(TASTES);
        }
    }

    private int draw(int n) {
        seed = seed * 1103515245 + 12345;
        return n > 0 ? (seed & 0x7fffffff) / 65536 % n : 0;
    }

    // ---- what rows tell

    private static int bitsOf(Shelf numbers) {
        int bits = 0;
        for (int i = 0; i < numbers.size; i++) {
            bits |= 1 << numbers.cells[i];
        }
        return bits;
    }

    private boolean isWorthAsTold(Shelf told, int kind, int figure, int taste) {
        for (int i = 0; i < told.size; i++) {
            if (!told.isSkipped(i) && told.cells[i] != worthOf(kind, figure, taste, now.week + i)) {
                return false;
            }
        }
        return true;
    }

    private boolean isTasteAsTold(Shelf told, int taste) {
        for (int g = 0; g < told.size && g < now.goods; g++) {
            if (!told.isSkipped(g)
                    && told.cells[g] != worthOf(now.kindOf[g], now.figureOf[g], taste, now.week)) {
                return false;
            }
        }
        return true;
    }

    // ---- two who lend or not

    /** Whether one has not more by the other choice, while who is with him keeps to his. */
    private boolean isContent(int p, int own, int others, int choice, int otherChoice) {
        int gained = gain(p, own, others, choice, otherChoice);
        return gained >= gain(p, own, others, 1 - choice, otherChoice);
    }

    private int gain(int p, int own, int others, int choice, int otherChoice) {
        int sum = 0;
        if (choice == 1) {
            sum += 3 - now.worthTo(p, own) / 2;
        }
        if (otherChoice == 1) {
            int worthOfLent = now.worthTo(p, others);
            sum += choice == 1 ? worthOfLent / 2 : worthOfLent;
        }
        return sum;
    }

    // ---- fractions

    private static long partOf(long above, long below, int part) {
        long divisor = greatestDivisor(above, below);
        if (divisor <= 0) {
            return 0;
        }
        return (part == 0 ? above : below) / divisor;
    }

    private static long greatestDivisor(long a, long b) {
        long greater = a;
        long less = b;
        for (int i = 0; i < 200 && less != 0; i++) {
            long rest = greater % less;
            greater = less;
            less = rest;
        }
        return greater;
    }

    // ---- searches

    /** The most of loans l, l + 1, .. that can be paid at once with goods that are not used. */
    private static int mostPaid(Settling settling, int l, int used) {
        if (l >= settling.loans) {
            return 0;
        }
        if (settling.known[l][used] >= 0) {
            return settling.known[l][used];
        }
        int most = mostPaid(settling, l + 1, used);
        int free = settling.payersOf[l] & ~used;
        for (int g = 0; g < MOST_GOODS; g++) {
            if (has(free, g)) {
                most = Math.max(most, 1 + mostPaid(settling, l + 1, used | 1 << g));
            }
        }
        settling.known[l][used] = most;
        return most;
    }

    /** Gives kinds k, k + 1, .. the first classes that fit, below most, when some are in use. */
    private static boolean classify(ShortList list, int k, int inUse, int most) {
        if (k >= KINDS) {
            return true;
        }
        if (list.rootOf[k] < k) {
            list.classOf[k] = list.classOf[list.rootOf[k]];
            return classify(list, k + 1, inUse, most);
        }
        for (int c = 0; c <= inUse && c < most; c++) {
            if (!list.isBarred(k, c)) {
                list.classOf[k] = c;
                if (classify(list, k + 1, c == inUse ? inUse + 1 : inUse, most)) {
                    return true;
                }
            }
        }
        return false;
    }

    /** All that there is but shelves and the image. What refuses answers below 0. */
    private static final class Town {
        final int[] kindOf = new int[MOST_GOODS];
        final int[] figureOf = new int[MOST_GOODS];
        final int[] ownerOf = new int[MOST_GOODS];
        int goods;
        final int[] tasteOf = new int[MOST_PEOPLE];
        int people;
        final int[] lenderOf = new int[MOST_LOANS];
        final int[] debtorOf = new int[MOST_LOANS];
        final int[] goodsOf = new int[MOST_LOANS];
        int loans;
        int open;
        final int[] classOf = new int[KINDS];
        int week;

        Town() {
            for (int k = 0; k < KINDS; k++) {
                classOf[k] = k;
            }
        }

        void become(Town other) {
            System.arraycopy(other.kindOf, 0, kindOf, 0, MOST_GOODS);
            System.arraycopy(other.figureOf, 0, figureOf, 0, MOST_GOODS);
            System.arraycopy(other.ownerOf, 0, ownerOf, 0, MOST_GOODS);
            goods = other.goods;
            System.arraycopy(other.tasteOf, 0, tasteOf, 0, MOST_PEOPLE);
            people = other.people;
            System.arraycopy(other.lenderOf, 0, lenderOf, 0, MOST_LOANS);
            System.arraycopy(other.debtorOf, 0, debtorOf, 0, MOST_LOANS);
            System.arraycopy(other.goodsOf, 0, goodsOf, 0, MOST_LOANS);
            loans = other.loans;
            open = other.open;
            System.arraycopy(other.classOf, 0, classOf, 0, KINDS);
            week = other.week;
        }

        boolean isGoods(int g) {
            return g >= 0 && g < goods;
        }

        boolean isPerson(int p) {
            return p >= 0 && p < people;
        }

        boolean isLoan(int l) {
            return l >= 0 && l < loans;
        }

        int addPerson(int taste) {
            if (taste < 0 || taste >= TASTES) {
                return NO_SUCH;
            }
            if (people >= MOST_PEOPLE) {
                return NO_ROOM;
            }
            tasteOf[people] = taste;
            people++;
            return people - 1;
        }

        int addGoods(int kind, int figure, int p) {
            if (!isKind(kind) || !isFigure(figure) || !isPerson(p)) {
                return NO_SUCH;
            }
            if (goods >= MOST_GOODS) {
                return NO_ROOM;
            }
            kindOf[goods] = kind;
            figureOf[goods] = figure;
            ownerOf[goods] = p;
            goods++;
            return goods - 1;
        }

        int addLoan(int g, int p) {
            if (!isGoods(g) || !isPerson(p)) {
                return NO_SUCH;
            }
            if (ownerOf[g] == p) {
                return NOT_SO;
            }
            if (loans >= MOST_LOANS) {
                return NO_ROOM;
            }
            lenderOf[loans] = ownerOf[g];
            debtorOf[loans] = p;
            goodsOf[loans] = g;
            open |= 1 << loans;
            ownerOf[g] = p;
            loans++;
            return loans - 1;
        }

        int liken(int a, int b) {
            if (!isKind(a) || !isKind(b)) {
                return NO_SUCH;
            }
            int was = classOf[b];
            classOf[b] = classOf[a];
            return was;
        }

        int passWeeks(int n) {
            if (n < 1 || n > WEEKS_AT_ONCE) {
                return NO_SUCH;
            }
            if (week + n > LAST_WEEK) {
                return NOT_SO;
            }
            for (int i = 0; i < n; i++) {
                passWeek();
            }
            return Integer.bitCount(open);
        }

        void passWeek() {
            week++;
            for (int l = 0; l < loans; l++) {
                int g = choice(debtorOf[l], payers(l), LEAST_WORTH);
                if (g >= 0) {
                    settle(l, g);
                }
            }
        }

        void settle(int l, int g) {
            ownerOf[g] = lenderOf[l];
            open &= ~(1 << l);
        }

        int worthTo(int p, int g) {
            return worthOf(kindOf[g], figureOf[g], tasteOf[p], week);
        }

        boolean isTaken(int p, int x, int y) {
            return has(takenFor(p, x), y);
        }

        int takenFor(int p, int x) {
            int taste = tasteOf[p];
            int asked = worthOf(kindOf[x], figureOf[x], taste, week);
            int bits = 0;
            for (int y = 0; y < goods; y++) {
                boolean same = classOf[kindOf[y]] == classOf[kindOf[x]];
                if (!same && worthOf(kindOf[y], figureOf[y], taste, week) >= asked) {
                    bits |= 1 << y;
                }
            }
            return bits;
        }

        int payers(int l) {
            if (!has(open, l)) {
                return 0;
            }
            return goodsHad(debtorOf[l]) & takenFor(lenderOf[l], goodsOf[l]);
        }

        int goodsHad(int p) {
            int bits = 0;
            for (int g = 0; g < goods; g++) {
                if (ownerOf[g] == p) {
                    bits |= 1 << g;
                }
            }
            return bits;
        }

        /** Of some goods the ones of most or least worth to one, of several the least number. */
        int choice(int p, int bits, int sign) {
            int best = NONE;
            int worthOfBest = 0;
            for (int g = 0; g < goods; g++) {
                int signedWorth = sign * worthTo(p, g);
                if (has(bits, g) && (best < 0 || signedWorth > worthOfBest)) {
                    best = g;
                    worthOfBest = signedWorth;
                }
            }
            return best;
        }

        int wealth(int p) {
            int sum = 0;
            for (int g = 0; g < goods; g++) {
                if (ownerOf[g] == p) {
                    sum += worthTo(p, g);
                }
            }
            return sum;
        }

        int allWealth() {
            int sum = 0;
            for (int p = 0; p < people; p++) {
                sum += wealth(p);
            }
            return sum;
        }

        int classes() {
            int bits = 0;
            for (int k = 0; k < KINDS; k++) {
                bits |= 1 << classOf[k];
            }
            return Integer.bitCount(bits);
        }

        boolean isQuarrel(int x, int y) {
            boolean more = false;
            boolean less = false;
            for (int p = 0; p < people; p++) {
                int difference = worthTo(p, x) - worthTo(p, y);
                more = more || difference > 0;
                less = less || difference < 0;
            }
            return more && less;
        }

        int allQuarrels() {
            int sum = 0;
            for (int x = 0; x < goods; x++) {
                for (int y = x + 1; y < goods; y++) {
                    if (isQuarrel(x, y)) {
                        sum++;
                    }
                }
            }
            return sum;
        }
    }

    /** Holds nothing, a thing or a row; cells are made once and used for each row again. */
    private static final class Shelf {
        int holds;
        int kind;
        int figure;
        int sort;
        int size;
        final int[] cells = new int[MOST_ELEMENTS];

        void holdThing(int newKind, int newFigure) {
            holds = HOLDS_THING;
            kind = newKind;
            figure = newFigure;
        }

        void holdRow(int newSort, int newSize) {
            holds = HOLDS_ROW;
            sort = newSort;
            size = newSize;
            for (int i = 0; i < MOST_ELEMENTS; i++) {
                cells[i] = 0;
            }
        }

        int refusal(int wanted) {
            if (holds == HOLDS_NOTHING) {
                return NOTHING_HELD;
            }
            return holds == wanted ? 0 : OTHER_KIND;
        }

        boolean isPlace(int i) {
            return i >= 0 && i < size;
        }

        boolean isStretch(int i, int n) {
            return i >= 0 && i <= size && n >= 0 && n <= size - i;
        }

        void fill(int i, int v) {
            if (sort == BYTES) {
                cells[i] = (byte) v;
            } else if (sort == SHORTS) {
                cells[i] = (short) v;
            } else {
                cells[i] = v;
            }
        }

        /** A told number that is the least of its sort says nothing. */
        boolean isSkipped(int i) {
            if (sort == BYTES) {
                return cells[i] == -128;
            }
            return cells[i] == (sort == SHORTS ? -32768 : -2147483648);
        }

        int digit(int i) {
            return isPlace(i) ? cells[i] - '0' : 0;
        }
    }

    /** Steps of one from goods to others that he would take for them. */
    private static final class Steps {
        final int[] next = new int[MOST_GOODS];
        final int[] left = new int[MOST_GOODS];
        int goods;

        void look(Town town, int p) {
            goods = town.goods;
            for (int g = 0; g < goods; g++) {
                next[g] = town.takenFor(p, g);
            }
        }

        /** For each of the goods the fewest steps that are left to y. */
        void countTo(int y) {
            for (int g = 0; g < goods; g++) {
                left[g] = g == y ? 0 : NONE;
            }
            for (int taken = 1; taken < goods; taken++) {
                for (int g = 0; g < goods; g++) {
                    if (left[g] < 0 && nextWith(g, taken - 1) >= 0) {
                        left[g] = taken;
                    }
                }
            }
        }

        int firstFrom(int x) {
            return left[x] > 0 ? nextWith(x, left[x] - 1) : NONE;
        }

        /** The least goods one step from g from which so many steps are left. */
        private int nextWith(int g, int stepsLeft) {
            for (int y = 0; y < goods; y++) {
                if (has(next[g], y) && left[y] == stepsLeft) {
                    return y;
                }
            }
            return NONE;
        }

        int reachedFrom(int x) {
            int reached = 1 << x;
            for (int taken = 1; taken < goods; taken++) {
                for (int g = 0; g < goods; g++) {
                    if (has(reached, g)) {
                        reached |= next[g];
                    }
                }
            }
            return reached;
        }
    }

    /** All open loans paid at once, each with other goods. */
    private static final class Settling {
        final int[] payersOf = new int[MOST_LOANS];
        /** What mostPaid found from a loan on, by bits of used goods; -1 where it did not look. */
        final int[][] known = new int[MOST_LOANS][1 << MOST_GOODS];
        int loans;

        void look(Town town) {
            loans = town.loans;
            for (int l = 0; l < loans; l++) {
                payersOf[l] = town.payers(l);
                for (int used = 0; used < 1 << town.goods; used++) {
                    known[l][used] = -1;
                }
            }
        }

        int payment(int wanted) {
            int used = 0;
            for (int l = 0; l < wanted; l++) {
                int g = firstBest(l, used);
                if (g >= 0) {
                    used |= 1 << g;
                }
            }
            return firstBest(wanted, used);
        }

        private int firstBest(int l, int used) {
            int most = mostPaid(this, l, used);
            int free = payersOf[l] & ~used;
            for (int g = 0; g < MOST_GOODS; g++) {
                if (has(free, g) && 1 + mostPaid(this, l + 1, used | 1 << g) == most) {
                    return g;
                }
            }
            return NONE;
        }
    }

    /** The fewest classes by which told quarrels end. */
    private static final class ShortList {
        /** The least kind that must be the same as this one. */
        final int[] rootOf = new int[KINDS];
        /** Bits of roots that must not be the same as this root. */
        final int[] barredOf = new int[KINDS];
        final int[] classOf = new int[KINDS];

        int fewest(Shelf told) {
            if (!read(told)) {
                return NONE;
            }
            for (int most = 1; most <= KINDS; most++) {
                if (classify(this, 0, 0, most)) {
                    return most;
                }
            }
            return NONE;
        }

        boolean isBarred(int k, int c) {
            for (int j = 0; j < k; j++) {
                if (has(barredOf[k], j) && classOf[j] == c) {
                    return true;
                }
            }
            return false;
        }

        /** Answers false, if what is told gainsays itself. */
        private boolean read(Shelf told) {
            for (int k = 0; k < KINDS; k++) {
                rootOf[k] = k;
                barredOf[k] = 0;
            }
            for (int i = 0; i + 2 < told.size; i += 3) {
                if (told.cells[i + 2] == 1) {
                    join(rootOf[told.cells[i]], rootOf[told.cells[i + 1]]);
                }
            }
            for (int i = 0; i + 2 < told.size; i += 3) {
                int a = rootOf[told.cells[i]];
                int b = rootOf[told.cells[i + 1]];
                if (told.cells[i + 2] == 0) {
                    barredOf[a] |= 1 << b;
                    barredOf[b] |= 1 << a;
                }
            }
            return !isGainsaid();
        }

        private void join(int a, int b) {
            int less = Math.min(a, b);
            for (int k = 0; k < KINDS; k++) {
                if (rootOf[k] == a || rootOf[k] == b) {
                    rootOf[k] = less;
                }
            }
        }

        private boolean isGainsaid() {
            for (int k = 0; k < KINDS; k++) {
                if (has(barredOf[k], k)) {
                    return true;
                }
            }
            return false;
        }
    }
}
