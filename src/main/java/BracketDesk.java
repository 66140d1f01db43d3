import java.util.Arrays;

/**
 * Polynomials of brackets of three letters (points of a plane) on six shelves.
 * The document ../shared/DOC.md has the promises; its words are used for the names here.
 */
public final class BracketDesk {
    public static final int NONE = -1;

    private static final int SHELVES = 6;
    private static final int LETTERS = 10;
    private static final int ALL_BRACKETS = 120;
    private static final int MOST_TERMS = 80;
    private static final int MOST_BRACKETS = 4;
    private static final int MOST_STEPS = 900;
    private static final int MOST_BYTES = 300;
    private static final int MOST_UNDONE = 10;
    private static final int IMAGES = 2;
    private static final int FARTHEST = 99;

    private static final int NO_SUCH = -2;
    private static final int NO_NUMBER = -3;
    private static final int TOO_MANY = -4;
    private static final int NO_IMAGE = -6;
    private static final int NO_INT = -7;
    private static final int BAD_TEXT = -30;
    private static final int NO_SUCH_PLACE = -100;
    private static final int NO_SUCH_INT = -2147483648;
    private static final long NO_SUCH_LONG = -9223372036854775808L;

    /** Why something can't be worked out, as why() tells it. */
    private static final int FINE = 0;
    private static final int TERMS = 1;
    private static final int BRACKETS = 2;
    private static final int STEPS = 3;
    private static final int NUMBER = 4;

    private static final int IS_ZERO = 0;
    private static final int IS_NOT_ZERO = 1;
    private static final int UNTOLD = 2;

    private final State now = new State();
    private final History history = new History();
    private final State[] images = new State[IMAGES];
    private final boolean[] made = new boolean[IMAGES];
    private final Tape tape = new Tape();
    private final Straightener straightener = new Straightener();
    private final Figures figures = new Figures();
    private final Forms forms = new Forms();
    private final Elimination elimination = new Elimination();
    private final Factors factors = new Factors();
    private final Term term = new Term();
    /** What a call works out before it is kept, so that a refused call changes no shelf. */
    private final Poly work = new Poly();
    private final Poly other = new Poly();
    private int why = FINE;

    public BracketDesk() {
        for (int i = 0; i < IMAGES; i++) {
            images[i] = new State();
        }
    }

    // ---- texts

    public int feed(int a, int b, int c, int d, int e) {
        if (tape.size + 20 > MOST_BYTES) {
            return TOO_MANY;
        }
        tape.take(a);
        tape.take(b);
        tape.take(c);
        tape.take(d);
        tape.take(e);
        return tape.size;
    }

    public int told(int s, int n) {
        why = FINE;
        int code = askedOfTape(s, n);
        if (code != FINE) {
            return code;
        }
        if (!tape.tellsPolynomial(n)) {
            return badText();
        }
        return keepText(s, tape.readPolynomial(n, work));
    }

    public int figure(int s, int n) {
        why = FINE;
        int code = askedOfTape(s, n);
        if (code != FINE) {
            return code;
        }
        if (!tape.tellsFigure(n)) {
            return badText();
        }
        figures.begin();
        int reason = FINE;
        for (int i = 0; i < n && reason == FINE; i++) {
            reason = figures.take(tape.bytes[i]);
        }
        return keepText(s, reason == FINE ? figures.makeFigure(work) : reason);
    }

    public int fault(int what) {
        if (what == 0) {
            return tape.fault;
        }
        return what == 1 ? tape.faultPlace : NONE;
    }

    public int why() {
        return why;
    }

    // ---- shelves

    public int clear(int s) {
        if (!isShelf(s)) {
            return NO_SUCH;
        }
        int had = now.shelves[s].size;
        work.empty();
        keep(s, FINE);
        return had;
    }

    public int copy(int s, int a) {
        if (!isShelf(s) || !isShelf(a)) {
            return NO_SUCH;
        }
        work.take(now.shelves[a]);
        return keep(s, FINE);
    }

    public int bracket(int s, int a, int b, int c) {
        if (!isShelf(s) || !areLetters(a, b, c)) {
            return NO_SUCH;
        }
        term.begin(0L);
        term.attach(Rows.row(a, b, c));
        work.empty();
        return keep(s, work.lay(term.key, term.sign));
    }

    public int exchange(int s, int x, int y, int k) {
        if (!isShelf(s)) {
            return NO_SUCH;
        }
        if (x < 0 || x > 999 || y < 0 || y > 999 || k < 1 || k > 3) {
            return NO_NUMBER;
        }
        work.empty();
        return keep(s, straightener.layExchange(work, rowOfDigits(x), rowOfDigits(y), k, 0L, 1L));
    }

    public int add(int s, int a, int m, int b, int n) {
        why = FINE;
        if (!isShelf(s) || !isShelf(a) || !isShelf(b)) {
            return NO_SUCH;
        }
        if (!isNear(m) || !isNear(n)) {
            return NO_NUMBER;
        }
        work.empty();
        int reason = work.laySum(now.shelves[a], m);
        if (reason == FINE) {
            reason = work.laySum(now.shelves[b], n);
        }
        return keep(s, reason);
    }

    public int times(int s, int a, int b) {
        why = FINE;
        if (!isShelf(s) || !isShelf(a) || !isShelf(b)) {
            return NO_SUCH;
        }
        work.empty();
        return keep(s, work.layProduct(now.shelves[a], now.shelves[b]));
    }

    public int put(int s, int a, int p, int q) {
        why = FINE;
        if (!isShelf(s) || !isShelf(a) || !isLetter(p) || !isLetter(q)) {
            return NO_SUCH;
        }
        return keep(s, rename(now.shelves[a], p, q, false));
    }

    public int turn(int s, int a, int p, int q) {
        why = FINE;
        if (!isShelf(s) || !isShelf(a) || !isLetter(p) || !isLetter(q)) {
            return NO_SUCH;
        }
        return keep(s, rename(now.shelves[a], p, q, true));
    }

    public int straight(int s, int a) {
        why = FINE;
        if (!isShelf(s) || !isShelf(a)) {
            return NO_SUCH;
        }
        return keep(s, straightener.straighten(now.shelves[a], work));
    }

    public int reduce(int s, int a) {
        if (!isShelf(s) || !isShelf(a)) {
            return NO_SUCH;
        }
        now.reduceTo(work, now.shelves[a]);
        return keep(s, FINE);
    }

    public int fact(int a, int b, int c, int v) {
        if (!areLetters(a, b, c)) {
            return NO_SUCH;
        }
        int bracket = Math.abs(Rows.ordered(Rows.row(a, b, c)));
        if (v < IS_ZERO || v > UNTOLD || bracket == 0) {
            return NO_NUMBER;
        }
        int was = now.factOf(bracket);
        history.keep(now);
        now.tellFact(bracket, v);
        return was;
    }

    public int place(int p, int x, int y, int z) {
        if (!isLetter(p)) {
            return NO_SUCH;
        }
        if (!isNear(x) || !isNear(y) || !isNear(z)) {
            return NO_NUMBER;
        }
        history.keep(now);
        now.places[3 * p] = x;
        now.places[3 * p + 1] = y;
        now.places[3 * p + 2] = z;
        return 0;
    }

    // ---- what there is

    public int terms(int s) {
        return isShelf(s) ? now.shelves[s].size : NO_SUCH;
    }

    public int term(int s, int i, int what) {
        if (!isShelf(s) || i < 0 || i >= now.shelves[s].size) {
            return NO_SUCH_INT;
        }
        Poly shelf = now.shelves[s];
        long key = shelf.keys[i];
        int broken = Rows.breakOf(key);
        switch (what) {
            case 0:
                return shelf.numbers[i];
            case 1:
                return Rows.bracketsIn(key);
            case 2:
                return broken == 0 ? 1 : 0;
            case 3:
                return broken == 0 ? NONE : Rows.bracketOfBreak(broken);
            case 4:
                return broken == 0 ? NONE : Rows.placeOfBreak(broken);
            default:
                return what < 10 || what > 21 ? NO_SUCH_INT : Rows.letterOfKey(key, what - 10);
        }
    }

    public int degree(int s, int p) {
        if (!isShelf(s) || !isLetter(p)) {
            return NO_SUCH;
        }
        Poly shelf = now.shelves[s];
        if (shelf.size == 0) {
            return NONE;
        }
        int often = Rows.timesOf(shelf.keys[0], p);
        for (int i = 1; i < shelf.size; i++) {
            if (Rows.timesOf(shelf.keys[i], p) != often) {
                return NONE;
            }
        }
        return often;
    }

    public int steps(int s) {
        why = FINE;
        if (!isShelf(s)) {
            return NO_SUCH;
        }
        int reason = straightener.straighten(now.shelves[s], work);
        return reason == FINE ? straightener.steps : refused(reason);
    }

    public int left(int s) {
        why = FINE;
        if (!isShelf(s)) {
            return NO_SUCH;
        }
        int reason = straightener.straighten(now.shelves[s], work);
        return reason == FINE ? work.size : refused(reason);
    }

    public int equal(int s, int a) {
        why = FINE;
        if (!isShelf(s) || !isShelf(a)) {
            return NO_SUCH;
        }
        int reason = straightener.straighten(now.shelves[s], work);
        if (reason == FINE) {
            reason = straightener.straighten(now.shelves[a], other);
        }
        if (reason != FINE) {
            return refused(reason);
        }
        return work.isLike(other) ? 1 : 0;
    }

    public int forms(int s) {
        if (!isShelf(s)) {
            return NO_SUCH;
        }
        Poly shelf = now.shelves[s];
        return shelf.size == 0 ? NONE : forms.countAll(shelf.keys[0]);
    }

    public int form(int s, int k, int i) {
        if (!isShelf(s)) {
            return NO_SUCH;
        }
        if (k < 0 || i < 0) {
            return NO_NUMBER;
        }
        Poly shelf = now.shelves[s];
        return shelf.size == 0 ? NONE : forms.letterOf(shelf.keys[0], k, i);
    }

    public int rank(int some) {
        why = FINE;
        if (some < 0 || some >= 1 << SHELVES) {
            return NO_SUCH;
        }
        elimination.begin();
        for (int s = 0; s < SHELVES; s++) {
            if ((some >> s & 1) == 1) {
                int reason = straightener.straighten(now.shelves[s], work);
                if (reason != FINE) {
                    return refused(reason);
                }
                elimination.takeRow(work);
            }
        }
        return elimination.independentRows();
    }

    public int factor(int s, int what) {
        why = FINE;
        if (!isShelf(s) || what < 0 || what > 6) {
            return NO_SUCH;
        }
        Poly shelf = now.shelves[s];
        if (shelf.size == 0 || !factors.takeLetters(shelf.keys[0])) {
            return 0;
        }
        int reason = straightener.straighten(now.shelves[s], work);
        if (reason != FINE) {
            return refused(reason);
        }
        if (!factors.search(work)) {
            return 0;
        }
        return what == 0 ? factors.multiple : factors.letterOfRow(what - 1) + 1;
    }

    public int isFinal(int s) {
        why = FINE;
        if (!isShelf(s)) {
            return NO_SUCH;
        }
        int reason = straightener.straighten(now.shelves[s], work);
        if (reason != FINE) {
            return refused(reason);
        }
        if (work.size != 0) {
            return 0;
        }
        now.reduceTo(other, now.shelves[s]);
        return other.size == 1 && now.cannotVanish(other.keys[0]) ? 1 : 0;
    }

    public int known(int a, int b, int c) {
        if (!areLetters(a, b, c)) {
            return NO_SUCH;
        }
        int bracket = Math.abs(Rows.ordered(Rows.row(a, b, c)));
        return bracket == 0 ? NO_NUMBER : now.factOf(bracket);
    }

    public int at(int p, int what) {
        if (!isLetter(p) || what < 0 || what > 2) {
            return NO_SUCH_PLACE;
        }
        return now.places[3 * p + what];
    }

    public int worth(int a, int b, int c) {
        return areLetters(a, b, c) ? now.determinant(a, b, c) : NO_SUCH_INT;
    }

    public long value(int s) {
        if (!isShelf(s)) {
            return NO_SUCH_LONG;
        }
        return now.worthOf(now.shelves[s]);
    }

    // ---- back

    public int undo(int n) {
        if (n < 1 || n > MOST_UNDONE || n > history.size) {
            return NO_NUMBER;
        }
        history.goBack(n, now);
        return history.size;
    }

    public int image(int i) {
        if (i < 0 || i >= IMAGES) {
            return NO_SUCH;
        }
        images[i].take(now);
        made[i] = true;
        return 0;
    }

    public int restore(int i) {
        if (i < 0 || i >= IMAGES) {
            return NO_SUCH;
        }
        if (!made[i]) {
            return NO_IMAGE;
        }
        now.take(images[i]);
        history.forget();
        return 0;
    }

    public int count(int what) {
        switch (what) {
            case 0:
                return now.allTerms();
            case 1:
                return now.factsThatAre(IS_ZERO);
            case 2:
                return now.factsThatAre(IS_NOT_ZERO);
            case 3:
                return tape.size;
            case 4:
                return history.size;
            case 5:
                return now.bracketsWorthZero();
            default:
                return NONE;
        }
    }

    // ---- what the calls share

    private static boolean isShelf(int s) {
        return s >= 0 && s < SHELVES;
    }

    private static boolean isLetter(int p) {
        return p >= 0 && p < LETTERS;
    }

    private static boolean areLetters(int a, int b, int c) {
        return isLetter(a) && isLetter(b) && isLetter(c);
    }

    private static boolean isNear(int x) {
        return x >= -FARTHEST && x <= FARTHEST;
    }

    private static int rowOfDigits(int x) {
        return Rows.row(x / 100, x / 10 % 10, x % 10);
    }

    private int askedOfTape(int s, int n) {
        if (!isShelf(s)) {
            return NO_SUCH;
        }
        return n < 0 || n > tape.size ? NO_NUMBER : FINE;
    }

    private int badText() {
        tape.size = 0;
        return BAD_TEXT - tape.fault;
    }

    /** The document empties the tape for a fault and for a text that is kept; -4 and -7 change nothing. */
    private int keepText(int s, int reason) {
        if (reason == FINE) {
            tape.size = 0;
        }
        return keep(s, reason);
    }

    /** Ends a call that told a shelf: the work is kept there, or the call is refused. */
    private int keep(int s, int reason) {
        if (reason != FINE) {
            return refused(reason);
        }
        history.keep(now);
        now.shelves[s].take(work);
        return work.size;
    }

    private int refused(int reason) {
        why = reason;
        return reason == NUMBER ? NO_INT : TOO_MANY;
    }

    private int rename(Poly from, int p, int q, boolean both) {
        work.empty();
        int reason = FINE;
        for (int i = 0; i < from.size && reason == FINE; i++) {
            term.rename(from.keys[i], p, q, both);
            reason = work.lay(term.key, (long) from.numbers[i] * term.sign);
        }
        return reason;
    }

    /**
     * A row is three letters of four bits each, a key four rows of brackets, the first one highest.
     * No bracket is 0 (its last letter is c or above), so 0 stands for 'no more brackets',
     * and the order of keys as numbers is the order of terms.
     */
    static final class Rows {
        static int row(int a, int b, int c) {
            return a << 8 | b << 4 | c;
        }

        static int letter(int row, int place) {
            return row >> 4 * (2 - place) & 15;
        }

        /** The bracket of a row, below 0 if it is turned, 0 if two letters are one. */
        static int ordered(int row) {
            int a = row >> 8 & 15;
            int b = row >> 4 & 15;
            int c = row & 15;
            if (a == b || a == c || b == c) {
                return 0;
            }
            int low = a < b ? a : b;
            low = low < c ? low : c;
            int high = a > b ? a : b;
            high = high > c ? high : c;
            int bracket = low << 8 | a + b + c - low - high << 4 | high;
            int turns = (a > b ? 1 : 0) + (a > c ? 1 : 0) + (b > c ? 1 : 0);
            return turns % 2 == 0 ? bracket : -bracket;
        }

        /** Gives each bracket a number of its own, 0 to 119. */
        static int indexOf(int bracket) {
            int a = letter(bracket, 0);
            int b = letter(bracket, 1);
            int c = letter(bracket, 2);
            return c * (c - 1) * (c - 2) / 6 + b * (b - 1) / 2 + a;
        }

        static int bracketAt(long key, int i) {
            return (int) (key >>> 12 * (MOST_BRACKETS - 1 - i)) & 4095;
        }

        static int bracketsIn(long key) {
            int many = 0;
            while (many < MOST_BRACKETS && bracketAt(key, many) != 0) {
                many++;
            }
            return many;
        }

        static int letterOfKey(long key, int i) {
            int bracket = bracketAt(key, i / 3);
            return bracket == 0 ? NONE : letter(bracket, i % 3);
        }

        static int timesOf(long key, int letter) {
            int often = 0;
            for (int i = 0; i < 3 * MOST_BRACKETS; i++) {
                if (letterOfKey(key, i) == letter) {
                    often++;
                }
            }
            return often;
        }

        /** The key with one bracket more; it has three at most before. */
        static long with(long key, int bracket) {
            for (int shift = 12 * (MOST_BRACKETS - 1); shift >= 0; shift -= 12) {
                int there = (int) (key >>> shift) & 4095;
                if (there == 0 || there > bracket) {
                    long behind = key & (1L << shift + 12) - 1;
                    return key - behind | (long) bracket << shift | behind >>> 12;
                }
            }
            return key;
        }

        /** The key without its brackets i and i + 1. */
        static long withoutTwo(long key, int i) {
            long result = 0L;
            for (int j = 0; j < MOST_BRACKETS; j++) {
                int bracket = bracketAt(key, j);
                if (j != i && j != i + 1 && bracket != 0) {
                    result = with(result, bracket);
                }
            }
            return result;
        }

        /** The brackets of both keys; these are four at most. */
        static long joined(long key, long more) {
            long result = key;
            for (int i = 0; i < MOST_BRACKETS; i++) {
                int bracket = bracketAt(more, i);
                if (bracket != 0) {
                    result = with(result, bracket);
                }
            }
            return result;
        }

        /** The break of a term, in one number; 0 if the term is standard. */
        static int breakOf(long key) {
            for (int i = 0; i + 1 < MOST_BRACKETS; i++) {
                int next = bracketAt(key, i + 1);
                if (next == 0) {
                    return 0;
                }
                int place = breakBetween(bracketAt(key, i), next);
                if (place != 0) {
                    return 4 * i + place;
                }
            }
            return 0;
        }

        static int bracketOfBreak(int broken) {
            return broken / 4;
        }

        static int placeOfBreak(int broken) {
            return broken % 4;
        }

        private static int breakBetween(int x, int y) {
            for (int k = 1; k <= 3; k++) {
                if (letter(x, k - 1) > letter(y, k - 1)) {
                    return k;
                }
            }
            return 0;
        }
    }

    /** A term as it is put together; its sign is 0 once a bracket is. */
    static final class Term {
        long key = 0L;
        int sign = 1;

        void begin(long brackets) {
            key = brackets;
            sign = 1;
        }

        void attach(int row) {
            int bracket = Rows.ordered(row);
            if (bracket == 0) {
                sign = 0;
            } else {
                key = Rows.with(key, Math.abs(bracket));
                sign = bracket < 0 ? -sign : sign;
            }
        }

        /** Letter q wherever p was, and, if both, p wherever q was. */
        void rename(long from, int p, int q, boolean both) {
            begin(0L);
            int many = Rows.bracketsIn(from);
            for (int i = 0; i < many; i++) {
                int row = 0;
                for (int place = 0; place < 3; place++) {
                    int letter = Rows.letter(Rows.bracketAt(from, i), place);
                    row = row << 4 | renamed(letter, p, q, both);
                }
                attach(row);
            }
        }

        private static int renamed(int letter, int p, int q, boolean both) {
            if (letter == p) {
                return q;
            }
            return both && letter == q ? p : letter;
        }
    }

    /** A polynomial: terms of unlike brackets, rising. */
    static final class Poly {
        final long[] keys = new long[MOST_TERMS];
        final int[] numbers = new int[MOST_TERMS];
        int size = 0;

        void empty() {
            size = 0;
        }

        void take(Poly from) {
            System.arraycopy(from.keys, 0, keys, 0, from.size);
            System.arraycopy(from.numbers, 0, numbers, 0, from.size);
            size = from.size;
        }

        boolean isLike(Poly that) {
            if (size != that.size) {
                return false;
            }
            for (int i = 0; i < size; i++) {
                if (keys[i] != that.keys[i] || numbers[i] != that.numbers[i]) {
                    return false;
                }
            }
            return true;
        }

        /** Puts one term to what there is; answers why it can't be, or FINE. */
        int lay(long key, long number) {
            if (number == 0L) {
                return FINE;
            }
            if (number != (int) number) {
                return NUMBER;
            }
            int i = find(key);
            if (i < size && keys[i] == key) {
                return layUpon(i, number + numbers[i]);
            }
            if (size >= MOST_TERMS) {
                return TERMS;
            }
            System.arraycopy(keys, i, keys, i + 1, size - i);
            System.arraycopy(numbers, i, numbers, i + 1, size - i);
            keys[i] = key;
            numbers[i] = (int) number;
            size++;
            return FINE;
        }

        /** Puts another polynomial, so many times, to what there is. */
        int laySum(Poly more, int times) {
            int reason = FINE;
            for (int i = 0; i < more.size && reason == FINE; i++) {
                reason = lay(more.keys[i], (long) more.numbers[i] * times);
            }
            return reason;
        }

        /** Puts the product of two other polynomials to what there is. */
        int layProduct(Poly a, Poly b) {
            int reason = FINE;
            for (int i = 0; i < a.size && reason == FINE; i++) {
                for (int j = 0; j < b.size && reason == FINE; j++) {
                    long key = a.keys[i];
                    if (Rows.bracketsIn(key) + Rows.bracketsIn(b.keys[j]) > MOST_BRACKETS) {
                        return BRACKETS;
                    }
                    reason = lay(Rows.joined(key, b.keys[j]), (long) a.numbers[i] * b.numbers[j]);
                }
            }
            return reason;
        }

        private int layUpon(int i, long sum) {
            if (sum != (int) sum) {
                return NUMBER;
            }
            numbers[i] = (int) sum;
            if (sum == 0L) {
                size--;
                System.arraycopy(keys, i + 1, keys, i, size - i);
                System.arraycopy(numbers, i + 1, numbers, i, size - i);
            }
            return FINE;
        }

        /** Where the first key is that isn't below this one. */
        private int find(long key) {
            int low = 0;
            for (int stride = 64; stride > 0; stride >>= 1) {
                if (low + stride <= size && keys[low + stride - 1] < key) {
                    low += stride;
                }
            }
            return low;
        }
    }

    /** Exchange, and straightening by it. */
    static final class Straightener {
        int steps = 0;
        private final Term term = new Term();

        /** Makes the result what another polynomial is once straight; answers why it can't be, or FINE. */
        int straighten(Poly from, Poly result) {
            result.take(from);
            steps = 0;
            int last = lastBroken(result, result.size - 1);
            while (last >= 0 && steps < MOST_STEPS) {
                // A step puts only terms ahead of the one that goes: those behind stay standard.
                int behind = result.size - 1 - last;
                long key = result.keys[last];
                int broken = Rows.breakOf(key);
                int at = Rows.bracketOfBreak(broken);
                int x = Rows.bracketAt(key, at);
                int y = Rows.bracketAt(key, at + 1);
                long less = -(long) result.numbers[last];
                int reason = layExchange(result, x, y, Rows.placeOfBreak(broken), Rows.withoutTwo(key, at), less);
                if (reason != FINE) {
                    return reason;
                }
                steps++;
                last = lastBroken(result, result.size - 1 - behind);
            }
            return last >= 0 ? STEPS : FINE;
        }

        /** Puts exchange of two rows at k, times other brackets and a number, to what there is. */
        int layExchange(Poly sum, int x, int y, int k, long others, long number) {
            int reason = FINE;
            int behindOfY = 4 * (3 - k);
            int four = (x << 4 * k | y >> behindOfY) & 65535;
            // Place 1 of the four is the highest bit, so falling masks are rising rows of places.
            for (int places = 15; places >= 0 && reason == FINE; places--) {
                if (Integer.bitCount(places) == 4 - k) {
                    term.begin(others);
                    int sign = attachWay(x >> 4 * (4 - k), four, places, y, behindOfY);
                    reason = sum.lay(term.key, number * sign * term.sign);
                }
            }
            return reason;
        }

        /** Attaches the two brackets of one way; answers the sign of the change of places. */
        private int attachWay(int aheadInX, int four, int places, int y, int behindOfY) {
            int first = aheadInX;
            int second = 0;
            int others = 0;
            int changes = 0;
            for (int i = 3; i >= 0; i--) {
                int letter = four >> 4 * i & 15;
                if ((places >> i & 1) == 1) {
                    first = first << 4 | letter;
                    changes += others;
                } else {
                    second = second << 4 | letter;
                    others++;
                }
            }
            term.attach(first);
            term.attach(second << behindOfY | y & (1 << behindOfY) - 1);
            return (changes & 1) == 0 ? 1 : -1;
        }

        private static int lastBroken(Poly p, int from) {
            int i = from;
            while (i >= 0 && Rows.breakOf(p.keys[i]) == 0) {
                i--;
            }
            return i;
        }
    }

    /** The bytes that were fed, and the faults of texts. */
    static final class Tape {
        private static final int CANT_STAND = 1;
        private static final int LONG_NUMBER = 2;
        private static final int FIFTH_BRACKET = 3;
        private static final int THIRD_OPEN = 4;

        private static final int MOST_DIGITS = 4;
        private static final int MOST_OPEN = 2;

        /** What was read last of a polynomial's text; INSIDE, and one and two more, wait for letters. */
        private static final int NOTHING = 0;
        private static final int SIGN = 1;
        private static final int DIGIT = 2;
        private static final int INSIDE = 3;
        private static final int FULL = 6;
        private static final int CLOSED = 7;

        /** What is due in parentheses: two points, the wedge, two points, the end. */
        private static final int WEDGE = 2;
        private static final int CLOSING = 5;
        private static final int POINTS_OF_FIGURE = 3;

        final int[] bytes = new int[MOST_BYTES];
        int size = 0;
        int fault = 0;
        int faultPlace = NONE;
        private final int[] due = new int[MOST_OPEN + 1];
        private final Term term = new Term();

        void take(int four) {
            for (int shift = 24; shift >= 0 && size < MOST_BYTES; shift -= 8) {
                bytes[size] = four >> shift & 255;
                size++;
            }
        }

        static boolean isLetterByte(int b) {
            return b >= 'a' && b <= 'j';
        }

        private static boolean isSign(int b) {
            return b == '+' || b == '-';
        }

        private static boolean isDigit(int b) {
            return b >= '0' && b <= '9';
        }

        private boolean note(int which, int place) {
            fault = which;
            faultPlace = place;
            return which == 0;
        }

        /** Looks for the fault of a polynomial's text; true if it has none. */
        boolean tellsPolynomial(int n) {
            int state = NOTHING;
            int digits = 0;
            int brackets = 0;
            for (int i = 0; i < n; i++) {
                int next = behind(state, bytes[i]);
                if (next == NONE) {
                    return note(CANT_STAND, i);
                }
                digits = next == DIGIT ? digits + 1 : 0;
                if (digits > MOST_DIGITS) {
                    return note(LONG_NUMBER, i - MOST_DIGITS);
                }
                if (next == SIGN) {
                    brackets = 0;
                }
                if (next == INSIDE) {
                    brackets++;
                }
                if (brackets > MOST_BRACKETS) {
                    return note(FIFTH_BRACKET, i);
                }
                state = next;
            }
            boolean whole = state == NOTHING || state == DIGIT || state == CLOSED;
            return whole ? note(0, NONE) : note(CANT_STAND, n);
        }

        /** What was read last, once this byte is; NONE if it can't stand there. */
        private static int behind(int state, int b) {
            if (state >= INSIDE && state < FULL) {
                return isLetterByte(b) ? state + 1 : NONE;
            }
            if (state == FULL) {
                return b == ']' ? CLOSED : NONE;
            }
            if (b == '[') {
                return INSIDE;
            }
            if (isSign(b)) {
                return state == SIGN ? NONE : SIGN;
            }
            return isDigit(b) && state != CLOSED ? DIGIT : NONE;
        }

        /** Works out a polynomial's text that has no fault. */
        int readPolynomial(int n, Poly sum) {
            sum.empty();
            term.begin(0L);
            int reason = FINE;
            int sign = 1;
            int number = NONE;
            for (int i = 0; i < n && reason == FINE; i++) {
                int b = bytes[i];
                if (isSign(b)) {
                    reason = i == 0 ? FINE : layRead(sum, sign, number);
                    term.begin(0L);
                    sign = b == '-' ? -1 : 1;
                    number = NONE;
                } else if (isDigit(b)) {
                    number = 10 * Math.max(number, 0) + b - '0';
                } else if (b == '[' && i + 3 < n) {
                    term.attach(Rows.row(bytes[i + 1] - 'a', bytes[i + 2] - 'a', bytes[i + 3] - 'a'));
                }
            }
            return reason == FINE && n > 0 ? layRead(sum, sign, number) : reason;
        }

        private int layRead(Poly sum, int sign, int number) {
            long times = number == NONE ? 1L : number;
            return sum.lay(term.key, sign * times * term.sign);
        }

        /** Looks for the fault of a figure's text; true if it has none. */
        boolean tellsFigure(int n) {
            int open = 0;
            due[0] = 0;
            for (int i = 0; i < n; i++) {
                int b = bytes[i];
                boolean point = isPointDue(open);
                if (point && b == '(' && open >= MOST_OPEN) {
                    return note(THIRD_OPEN, i);
                }
                if (point && b == '(') {
                    open++;
                    due[open] = 0;
                } else if (point ? isLetterByte(b) : open > 0 && due[open] == WEDGE && b == '^') {
                    due[open]++;
                } else if (open > 0 && due[open] == CLOSING && b == ')') {
                    open--;
                    due[open]++;
                } else {
                    return note(CANT_STAND, i);
                }
            }
            boolean whole = open == 0 && due[0] == POINTS_OF_FIGURE;
            return whole ? note(0, NONE) : note(CANT_STAND, n);
        }

        private boolean isPointDue(int open) {
            if (open == 0) {
                return due[0] < POINTS_OF_FIGURE;
            }
            return due[open] != WEDGE && due[open] < CLOSING;
        }
    }

    /**
     * Works out figures by a stack of points. A point is a sum of letters, each with a polynomial:
     * ten polynomials in a row, told by where the first of them is.
     */
    static final class Figures {
        /** Two points of the figure, three of its third one, four of the fourth of these. */
        private static final int MOST_POINTS = 9;

        private final Poly[] polys = new Poly[LETTERS * (MOST_POINTS + 1)];
        private final int[] stack = new int[MOST_POINTS];
        private int top = 0;
        /** A point that isn't on the stack. */
        private int spare = LETTERS * MOST_POINTS;
        private final Poly first = new Poly();
        private final Poly second = new Poly();
        private final Poly firstBracket = new Poly();
        private final Poly secondBracket = new Poly();
        private final Term term = new Term();

        Figures() {
            for (int i = 0; i < polys.length; i++) {
                polys[i] = new Poly();
            }
            for (int i = 0; i < MOST_POINTS; i++) {
                stack[i] = LETTERS * i;
            }
        }

        void begin() {
            top = 0;
        }

        /** Works out what stands as a byte of a text without fault is read; answers why it can't be, or FINE. */
        int take(int b) {
            if (Tape.isLetterByte(b) && top < MOST_POINTS) {
                empty(stack[top]);
                top++;
                return polys[stack[top - 1] + b - 'a'].lay(0L, 1L);
            }
            if (b != ')' || top < 4) {
                return FINE;
            }
            int p = stack[top - 4];
            int q = stack[top - 3];
            int r = stack[top - 2];
            int s = stack[top - 1];
            int reason = makeBracket(firstBracket, p, r, s);
            if (reason == FINE) {
                reason = makeBracket(secondBracket, q, r, s);
            }
            if (reason == FINE) {
                reason = makeSpare(p, q);
            }
            stack[top - 4] = spare;
            spare = p;
            top -= 3;
            return reason;
        }

        /** Makes the result the bracket of the three points that stand. */
        int makeFigure(Poly result) {
            return makeBracket(result, stack[0], stack[1], stack[2]);
        }

        private void empty(int point) {
            for (int i = 0; i < LETTERS; i++) {
                polys[point + i].empty();
            }
        }

        /** Makes the spare point the first bracket times q, less the second one times p. */
        private int makeSpare(int p, int q) {
            empty(spare);
            int reason = FINE;
            for (int i = 0; i < LETTERS && reason == FINE; i++) {
                reason = polys[spare + i].layProduct(firstBracket, polys[q + i]);
            }
            for (int i = 0; i < LETTERS && reason == FINE; i++) {
                first.empty();
                reason = first.layProduct(secondBracket, polys[p + i]);
                if (reason == FINE) {
                    reason = polys[spare + i].laySum(first, -1);
                }
            }
            return reason;
        }

        /** Makes the result the bracket of three points. */
        private int makeBracket(Poly result, int p, int q, int r) {
            result.empty();
            int reason = FINE;
            for (int a = 0; a < LETTERS; a++) {
                if (polys[p + a].size == 0) {
                    continue;
                }
                for (int b = 0; b < LETTERS; b++) {
                    if (polys[q + b].size == 0 || a == b) {
                        continue;
                    }
                    for (int c = 0; c < LETTERS && reason == FINE; c++) {
                        if (polys[r + c].size != 0 && a != c && b != c) {
                            term.begin(0L);
                            term.attach(Rows.row(a, b, c));
                            reason = layTimesThree(result, polys[p + a], polys[q + b], polys[r + c]);
                        }
                    }
                }
            }
            return reason;
        }

        /** Puts the term times three polynomials, one by one, to what there is. */
        private int layTimesThree(Poly sum, Poly x, Poly y, Poly z) {
            first.empty();
            first.lay(term.key, term.sign);
            second.empty();
            int reason = second.layProduct(first, x);
            if (reason == FINE) {
                first.empty();
                reason = first.layProduct(second, y);
            }
            if (reason == FINE) {
                second.empty();
                reason = second.layProduct(first, z);
            }
            return reason == FINE ? sum.laySum(second, 1) : reason;
        }
    }

    /** All forms of the counts of a term, in the order of terms. */
    static final class Forms {
        private static final int ALL = 1000000;

        private final int[] unused = new int[LETTERS];
        private final int[] cells = new int[3 * MOST_BRACKETS];
        private int size = 0;
        private int wanted = ALL;
        private int found = 0;

        int countAll(long key) {
            begin(key, ALL);
            fill(0);
            return found;
        }

        int letterOf(long key, int k, int i) {
            begin(key, k);
            if (i >= size || !fill(0)) {
                return NONE;
            }
            return cells[i];
        }

        private void begin(long key, int k) {
            size = 3 * Rows.bracketsIn(key);
            wanted = k;
            found = 0;
            for (int letter = 0; letter < LETTERS; letter++) {
                unused[letter] = Rows.timesOf(key, letter);
            }
        }

        /** Fills the cells from this one on; true as soon as the form that is wanted stands there. */
        private boolean fill(int cell) {
            if (cell >= size) {
                found++;
                return found - 1 == wanted;
            }
            boolean starts = cell % 3 == 0;
            int lowest = starts ? 0 : cells[cell - 1] + 1;
            if (cell >= 3) {
                lowest = Math.max(lowest, cells[cell - 3]);
            }
            for (int letter = lowest; letter < LETTERS; letter++) {
                if (unused[letter] > 0) {
                    cells[cell] = letter;
                    unused[letter]--;
                    if (fill(cell + 1)) {
                        return true;
                    }
                    unused[letter]++;
                    if (starts) {
                        // No cell behind this one may have a lower letter, so there is but one way.
                        return false;
                    }
                }
            }
            return false;
        }
    }

    /** Polynomials as rows of numbers, all modulo a prime. */
    static final class Elimination {
        private static final int PRIME = 1000003;
        private static final int MOST_COLUMNS = SHELVES * MOST_TERMS;

        private final long[] columns = new long[MOST_COLUMNS];
        private final int[][] rows = new int[SHELVES][MOST_COLUMNS];
        private int width = 0;
        private int height = 0;

        void begin() {
            width = 0;
            height = 0;
        }

        void takeRow(Poly p) {
            if (height >= SHELVES) {
                return;
            }
            Arrays.fill(rows[height], 0);
            for (int i = 0; i < p.size; i++) {
                int column = columnOf(p.keys[i]);
                if (column < MOST_COLUMNS) {
                    rows[height][column] = Math.floorMod(p.numbers[i], PRIME);
                }
            }
            height++;
        }

        int independentRows() {
            int done = 0;
            for (int column = 0; column < width && done < height; column++) {
                if (bringUp(column, done)) {
                    for (int r = done + 1; r < height; r++) {
                        clearColumn(column, done, r);
                    }
                    done++;
                }
            }
            return done;
        }

        /** Brings a row that has something in this column to the place of the first that isn't done. */
        private boolean bringUp(int column, int done) {
            for (int r = done; r < height; r++) {
                if (rows[r][column] != 0) {
                    int[] row = rows[r];
                    rows[r] = rows[done];
                    rows[done] = row;
                    return true;
                }
            }
            return false;
        }

        private void clearColumn(int column, int by, int r) {
            long mine = rows[r][column];
            long its = rows[by][column];
            for (int i = column; i < width && mine != 0; i++) {
                rows[r][i] = (int) Math.floorMod(rows[r][i] * its - rows[by][i] * mine, (long) PRIME);
            }
        }

        private int columnOf(long key) {
            int column = 0;
            while (column < width && columns[column] != key) {
                column++;
            }
            if (column == width && width < MOST_COLUMNS) {
                columns[column] = key;
                width++;
            }
            return column;
        }
    }

    /**
     * Finds a polynomial of six unlike letters as a multiple of a figure (pq^rs)tu.
     * The letters are told by their places among the six: a straight polynomial of them
     * is five numbers, one for each form of the six.
     */
    static final class Factors {
        private static final int SIX = 6;
        private static final int FORMS_OF_SIX = 5;
        private static final int ROWS_OF_SIX = 720;

        int multiple = 0;
        private final int[] letters = new int[SIX];
        private final int[] row = new int[SIX];
        private final long[] forms = new long[FORMS_OF_SIX];
        /** The straight form of two brackets, by which two letters are beside the first one. */
        private final int[] straight = new int[32 * FORMS_OF_SIX];
        private final int[] asked = new int[FORMS_OF_SIX];

        Factors() {
            int many = 0;
            for (int beside = 0; beside < 32; beside++) {
                long key = keyOf(beside);
                if (key != 0L && Rows.breakOf(key) == 0 && many < FORMS_OF_SIX) {
                    forms[many] = key;
                    many++;
                }
            }
            Poly two = new Poly();
            Poly p = new Poly();
            Straightener straightener = new Straightener();
            for (int beside = 0; beside < 32; beside++) {
                two.empty();
                two.lay(keyOf(beside), 1L);
                straightener.straighten(two, p);
                for (int i = 0; i < p.size; i++) {
                    int form = formOf(p.keys[i]);
                    if (form != NONE) {
                        straight[FORMS_OF_SIX * beside + form] = p.numbers[i];
                    }
                }
            }
        }

        /** Takes the six letters of a term; false if it isn't two brackets of six unlike ones. */
        boolean takeLetters(long key) {
            if (Rows.bracketsIn(key) != 2) {
                return false;
            }
            int many = 0;
            for (int letter = 0; letter < LETTERS; letter++) {
                if (many < SIX && Rows.timesOf(key, letter) == 1) {
                    letters[many] = letter;
                    many++;
                }
            }
            return many == SIX;
        }

        int letterOfRow(int i) {
            return i < 0 || i >= SIX ? NONE : letters[row[i]];
        }

        /** Looks for the first row of which a straight polynomial of these letters is a multiple. */
        boolean search(Poly p) {
            if (p.size == 0 || !takeAsked(p)) {
                return false;
            }
            for (int i = 0; i < SIX; i++) {
                row[i] = i;
            }
            for (int i = 0; i < ROWS_OF_SIX; i++) {
                if (isMultiple()) {
                    return true;
                }
                nextRow();
            }
            return false;
        }

        private boolean takeAsked(Poly p) {
            Arrays.fill(asked, 0);
            for (int i = 0; i < p.size; i++) {
                int form = formOf(byPlaces(p.keys[i]));
                if (form == NONE) {
                    return false;
                }
                asked[form] = p.numbers[i];
            }
            return true;
        }

        /** The key with each letter told by its place among the six; 0 if it has others. */
        private long byPlaces(long key) {
            if (Rows.bracketsIn(key) != 2) {
                return 0L;
            }
            long result = 0L;
            for (int i = 0; i < 2; i++) {
                int bracket = 0;
                for (int j = 0; j < 3; j++) {
                    int place = placeOf(Rows.letterOfKey(key, 3 * i + j));
                    if (place == NONE) {
                        return 0L;
                    }
                    bracket = bracket << 4 | place;
                }
                result = Rows.with(result, bracket);
            }
            return result;
        }

        private int placeOf(int letter) {
            for (int i = 0; i < SIX; i++) {
                if (letters[i] == letter) {
                    return i;
                }
            }
            return NONE;
        }

        private int formOf(long key) {
            for (int i = 0; i < FORMS_OF_SIX; i++) {
                if (forms[i] == key) {
                    return i;
                }
            }
            return NONE;
        }

        /** The two brackets of 0 to 5 of which the first has 0 and the two of these bits; 0 if not two. */
        private static long keyOf(int beside) {
            if (Integer.bitCount(beside) != 2) {
                return 0L;
            }
            int mine = 0;
            int others = 0;
            for (int i = 0; i < SIX; i++) {
                if (i == 0 || (beside >> i - 1 & 1) == 1) {
                    mine = mine << 4 | i;
                } else {
                    others = others << 4 | i;
                }
            }
            return Rows.with(Rows.with(0L, mine), others);
        }

        /** Whether what is asked is a multiple of the figure of this row, which is [prs][qtu] - [qrs][ptu]. */
        private boolean isMultiple() {
            int signs = signOf(0, 2, 3) * signOf(1, 4, 5);
            int lessSigns = signOf(1, 2, 3) * signOf(0, 4, 5);
            int at = FORMS_OF_SIX * besideFirst(0, 2, 3);
            int lessAt = FORMS_OF_SIX * besideFirst(1, 2, 3);
            long times = 0L;
            for (int i = 0; i < FORMS_OF_SIX; i++) {
                int number = signs * straight[at + i] - lessSigns * straight[lessAt + i];
                if (times == 0L && number != 0) {
                    times = (long) asked[i] / number;
                    if (times == 0L) {
                        return false;
                    }
                }
                if (times * number != asked[i]) {
                    return false;
                }
            }
            multiple = (int) times;
            return times != 0L && times == multiple;
        }

        private int signOf(int i, int j, int k) {
            return Rows.ordered(Rows.row(row[i], row[j], row[k])) < 0 ? -1 : 1;
        }

        /** The bits of the two letters that are beside the first one, here or in the other bracket. */
        private int besideFirst(int i, int j, int k) {
            int bits = 1 << row[i] | 1 << row[j] | 1 << row[k];
            return ((bits & 1) == 1 ? bits : 63 - bits) >> 1;
        }

        /** The next row in the order of rows; the last one stays. */
        private void nextRow() {
            int i = SIX - 2;
            while (i >= 0 && row[i] > row[i + 1]) {
                i--;
            }
            if (i < 0) {
                return;
            }
            int j = SIX - 1;
            while (j > i && row[j] < row[i]) {
                j--;
            }
            swap(i, j);
            for (int low = i + 1, high = SIX - 1; low < high; low++, high--) {
                swap(low, high);
            }
        }

        private void swap(int i, int j) {
            int kept = row[i];
            row[i] = row[j];
            row[j] = kept;
        }
    }

    /** All that can be undone, and that an image has. */
    static final class State {
        final Poly[] shelves = new Poly[SHELVES];
        final int[] places = new int[3 * LETTERS];
        private final int[] facts = new int[ALL_BRACKETS];

        State() {
            for (int s = 0; s < SHELVES; s++) {
                shelves[s] = new Poly();
            }
            Arrays.fill(facts, UNTOLD);
        }

        void take(State from) {
            for (int s = 0; s < SHELVES; s++) {
                shelves[s].take(from.shelves[s]);
            }
            System.arraycopy(from.places, 0, places, 0, places.length);
            System.arraycopy(from.facts, 0, facts, 0, facts.length);
        }

        int allTerms() {
            int many = 0;
            for (int s = 0; s < SHELVES; s++) {
                many += shelves[s].size;
            }
            return many;
        }

        int factOf(int bracket) {
            return facts[Rows.indexOf(bracket)];
        }

        void tellFact(int bracket, int v) {
            facts[Rows.indexOf(bracket)] = v;
        }

        int factsThatAre(int v) {
            int many = 0;
            for (int i = 0; i < ALL_BRACKETS; i++) {
                if (facts[i] == v) {
                    many++;
                }
            }
            return many;
        }

        void reduceTo(Poly result, Poly from) {
            result.empty();
            for (int i = 0; i < from.size; i++) {
                if (bracketsThatAre(from.keys[i], IS_ZERO) == 0) {
                    result.lay(from.keys[i], from.numbers[i]);
                }
            }
        }

        /** Whether a term has brackets, and none of them is 0 by facts. */
        boolean cannotVanish(long key) {
            int many = Rows.bracketsIn(key);
            return many > 0 && bracketsThatAre(key, IS_NOT_ZERO) == many;
        }

        private int bracketsThatAre(long key, int v) {
            int found = 0;
            int many = Rows.bracketsIn(key);
            for (int i = 0; i < many; i++) {
                if (factOf(Rows.bracketAt(key, i)) == v) {
                    found++;
                }
            }
            return found;
        }

        int determinant(int a, int b, int c) {
            int i = 3 * a;
            int j = 3 * b;
            int k = 3 * c;
            return places[i] * (places[j + 1] * places[k + 2] - places[j + 2] * places[k + 1])
                    - places[i + 1] * (places[j] * places[k + 2] - places[j + 2] * places[k])
                    + places[i + 2] * (places[j] * places[k + 1] - places[j + 1] * places[k]);
        }

        int bracketsWorthZero() {
            int many = 0;
            for (int a = 0; a < LETTERS; a++) {
                for (int b = a + 1; b < LETTERS; b++) {
                    for (int c = b + 1; c < LETTERS; c++) {
                        if (determinant(a, b, c) == 0) {
                            many++;
                        }
                    }
                }
            }
            return many;
        }

        /** The worth of a polynomial; NO_SUCH_LONG if it is too great. */
        long worthOf(Poly p) {
            long sum = 0L;
            for (int i = 0; i < p.size; i++) {
                long product = p.numbers[i];
                int many = Rows.bracketsIn(p.keys[i]);
                for (int j = 0; j < many; j++) {
                    int bracket = Rows.bracketAt(p.keys[i], j);
                    int worth = determinant(Rows.letter(bracket, 0), Rows.letter(bracket, 1), Rows.letter(bracket, 2));
                    if (isTooGreat(product, worth)) {
                        return NO_SUCH_LONG;
                    }
                    product *= worth;
                }
                long next = sum + product;
                if (((sum ^ next) & (product ^ next)) < 0L) {
                    return NO_SUCH_LONG;
                }
                sum = next;
            }
            return sum;
        }

        /** Whether the product is no long. */
        private static boolean isTooGreat(long x, int y) {
            if (y == 0) {
                return false;
            }
            if (y == -1) {
                return x == NO_SUCH_LONG;
            }
            return x * y / y != x;
        }
    }

    /** The states that calls can be undone to, the eldest forgotten. */
    static final class History {
        int size = 0;
        private final State[] kept = new State[MOST_UNDONE];
        private int next = 0;

        History() {
            for (int i = 0; i < MOST_UNDONE; i++) {
                kept[i] = new State();
            }
        }

        void keep(State state) {
            kept[next].take(state);
            next = (next + 1) % MOST_UNDONE;
            size = Math.min(size + 1, MOST_UNDONE);
        }

        /** Goes back by n calls, which are not more than there are. */
        void goBack(int n, State state) {
            next = Math.floorMod(next - n, MOST_UNDONE);
            size -= n;
            state.take(kept[next]);
        }

        void forget() {
            size = 0;
        }
    }
}
