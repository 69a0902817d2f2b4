/**
 * Rows of polynomials and the series that stand behind them, reckoned by the prime 9973.
 *
 * Every array is made with the desk and used again, so that no call makes an object.
 */
public final class ShadowRowDesk {
    public static final int NONE = -1, UNKNOWN = -2, OUTSIDE = -3, NOT = -4, FULL = -5, WRONG = -6;

    private static final int PRIME = 9973;
    private static final int TOP = 8;
    private static final int SIZE = TOP + 1;
    private static final int ROW_LIMIT = 4;
    private static final int KEPT_LIMIT = 2;
    private static final int UNDO_LIMIT = 8;
    private static final int TEXT_LIMIT = 120;
    private static final int LETTER_LIMIT = 256;
    private static final int OPEN_LIMIT = 6;
    private static final int SUM_LIMIT = 500;

    /** Each open bracket can leave a sum and a product waiting; g waits below while f is reckoned. */
    private static final int PILE_LIMIT = 2 * (OPEN_LIMIT + 1) + 2;

    private final Reckoner reckoner;
    private final Text text;
    private final Reader reader;
    private final Row[] rows;
    private final Hand held;
    private final Kept[] kept;

    /** A new g, a new f: reckoned here first, since the row that becomes them may be told by itself. */
    private final int[] newG;
    private final int[] newF;
    private final int[] scratch;

    /** By what NUMBERS a row tells a polynomial. */
    private final int[] numbers;

    public ShadowRowDesk() {
        reckoner = new Reckoner();
        text = new Text();
        reader = new Reader(reckoner);
        rows = new Row[ROW_LIMIT];
        for (int i = 0; i < ROW_LIMIT; i++) {
            rows[i] = new Row(reckoner);
        }
        held = new Hand();
        kept = new Kept[KEPT_LIMIT];
        for (int i = 0; i < KEPT_LIMIT; i++) {
            kept[i] = new Kept();
        }
        newG = new int[SIZE];
        newF = new int[SIZE];
        scratch = new int[SIZE];
        numbers = new int[SIZE];
    }

    // ---- what is told

    public int write(int letter) {
        if (letter < 0 || letter >= LETTER_LIMIT) {
            return OUTSIDE;
        }
        return text.append(letter) ? text.length : FULL;
    }

    public int erase() {
        int had = text.length;
        text.clear();
        return had;
    }

    public int fault() {
        return text.firstFault();
    }

    public int read(int row) {
        if (!isRow(row)) {
            return UNKNOWN;
        }
        if (text.firstFault() != NONE) {
            return NOT;
        }
        if (!reader.reckon(text)) {
            return WRONG;
        }
        text.clear();
        return rows[row].become(reader.toldG(), reader.toldF());
    }

    // ---- rows

    public int compose(int row, int one, int other) {
        if (!isRow(row) || !isRow(one) || !isRow(other)) {
            return UNKNOWN;
        }
        Row outer = rows[one];
        Row inner = rows[other];
        reckoner.putInside(newG, outer.g, inner.f);
        reckoner.multiply(newG, newG, inner.g);
        reckoner.putInside(newF, outer.f, inner.f);
        return rows[row].become(newG, newF);
    }

    public int invert(int row, int of) {
        if (!isRow(row) || !isRow(of)) {
            return UNKNOWN;
        }
        Row source = rows[of];
        reckoner.putInside(scratch, source.g, source.turnedF);
        reckoner.overSeries(newG, scratch);
        copy(source.turnedF, newF);
        return rows[row].become(newG, newF);
    }

    public int part(int row, int of, int part) {
        if (!isRow(row) || !isRow(of)) {
            return UNKNOWN;
        }
        if (part != 0 && part != 1) {
            return OUTSIDE;
        }
        copy(rows[of].g, newG);
        copy(rows[of].f, newF);
        if (part == 0) {
            setMonomial(newG, 0, 1);
        } else {
            setMonomial(newF, 1, 1);
        }
        return rows[row].become(newG, newF);
    }

    public int move(int row, int of, int a) {
        if (!isRow(row) || !isRow(of)) {
            return UNKNOWN;
        }
        if (!Numbers.holds(a)) {
            return OUTSIDE;
        }
        reckoner.exponentialOf(scratch, Numbers.subtract(0, a));
        reckoner.multiply(newG, rows[of].g, scratch);
        copy(rows[of].f, newF);
        return rows[row].become(newG, newF);
    }

    public int stretch(int row, int of, int c) {
        if (!isRow(row) || !isRow(of)) {
            return UNKNOWN;
        }
        if (c == 0 || !Numbers.holds(c)) {
            return OUTSIDE;
        }
        setMonomial(scratch, 1, Numbers.inverse(c));
        reckoner.putInside(newG, rows[of].g, scratch);
        reckoner.putInside(newF, rows[of].f, scratch);
        return rows[row].become(newG, newF);
    }

    public int series(int row, int what, int k) {
        if (!isRow(row)) {
            return UNKNOWN;
        }
        if (what < 0 || what > 3 || !isPower(k)) {
            return OUTSIDE;
        }
        return rows[row].chosen(what)[k];
    }

    public int polynomial(int row, int n, int k) {
        if (!isRow(row)) {
            return UNKNOWN;
        }
        if (!isPower(n) || !isPower(k)) {
            return OUTSIDE;
        }
        return rows[row].polynomials[n][k];
    }

    public int value(int row, int n, int x) {
        if (!isRow(row)) {
            return UNKNOWN;
        }
        if (!isPower(n) || !Numbers.holds(x)) {
            return OUTSIDE;
        }
        return valueAt(rows[row].polynomials[n], x);
    }

    public int connect(int one, int other, int n, int k) {
        if (!isRow(one) || !isRow(other)) {
            return UNKNOWN;
        }
        if (!isPower(n) || !isPower(k)) {
            return OUTSIDE;
        }
        rows[other].tell(numbers, rows[one].polynomials[n]);
        return numbers[k];
    }

    public int differ(int one, int other) {
        if (!isRow(one) || !isRow(other)) {
            return UNKNOWN;
        }
        for (int n = 0; n < SIZE; n++) {
            if (!areAlike(rows[one].polynomials[n], rows[other].polynomials[n])) {
                return n;
            }
        }
        return NONE;
    }

    // ---- in hand

    public int take(int row, int n) {
        if (!isRow(row)) {
            return UNKNOWN;
        }
        if (!isPower(n)) {
            return OUTSIDE;
        }
        held.remember();
        copy(rows[row].polynomials[n], held.p);
        return held.p[n];
    }

    public int put(int k, int a) {
        if (!isPower(k) || !Numbers.holds(a)) {
            return OUTSIDE;
        }
        held.remember();
        int was = held.p[k];
        held.p[k] = a;
        return was;
    }

    public int plus(int row, int n, int c) {
        if (!isRow(row)) {
            return UNKNOWN;
        }
        if (!isPower(n) || !Numbers.holds(c)) {
            return OUTSIDE;
        }
        held.remember();
        addMultiple(held.p, rows[row].polynomials[n], c);
        return held.p[0];
    }

    public int act(int row, int what) {
        if (!isRow(row)) {
            return UNKNOWN;
        }
        if (what < 0 || what > 2) {
            return OUTSIDE;
        }
        held.remember();
        reckoner.takeBy(held.p, rows[row].chosen(what));
        return held.p[0];
    }

    public int raise(int row) {
        if (!isRow(row)) {
            return UNKNOWN;
        }
        if (held.hasTopPower()) {
            return NOT;
        }
        held.remember();
        reckoner.untakeBy(held.p, rows[row].f);
        return valueAt(held.p, 1);
    }

    public int shift(int a) {
        if (!Numbers.holds(a)) {
            return OUTSIDE;
        }
        held.remember();
        // Taylor's theorem: p at x and a together is p taken by e(a times t).
        reckoner.exponentialOf(scratch, a);
        reckoner.takeBy(held.p, scratch);
        return held.p[0];
    }

    public int times() {
        if (held.hasTopPower()) {
            return NOT;
        }
        held.remember();
        moveUp(held.p);
        return valueAt(held.p, 1);
    }

    public int swap(int one, int other) {
        if (!isRow(one) || !isRow(other)) {
            return UNKNOWN;
        }
        held.remember();
        rows[one].tell(numbers, held.p);
        rows[other].gather(held.p, numbers);
        return held.p[0];
    }

    public int climb(int row) {
        if (!isRow(row)) {
            return UNKNOWN;
        }
        if (held.hasTopPower()) {
            return NOT;
        }
        held.remember();
        rows[row].tell(numbers, held.p);
        moveUp(numbers);
        rows[row].gather(held.p, numbers);
        return held.p[0];
    }

    public int weigh(int row) {
        if (!isRow(row)) {
            return UNKNOWN;
        }
        held.remember();
        rows[row].tell(numbers, held.p);
        for (int k = 0; k < SIZE; k++) {
            numbers[k] = Numbers.multiply(numbers[k], k);
        }
        rows[row].gather(held.p, numbers);
        return held.p[0];
    }

    public int undo() {
        return held.restore() ? held.undoable : NOT;
    }

    public int hand(int k) {
        return isPower(k) ? held.p[k] : OUTSIDE;
    }

    public int at(int x) {
        return Numbers.holds(x) ? valueAt(held.p, x) : OUTSIDE;
    }

    public int expand(int row, int k) {
        if (!isRow(row)) {
            return UNKNOWN;
        }
        if (!isPower(k)) {
            return OUTSIDE;
        }
        rows[row].tell(numbers, held.p);
        return numbers[k];
    }

    public int sum(int m) {
        if (m < 0 || m > SUM_LIMIT) {
            return OUTSIDE;
        }
        int total = 0;
        for (int x = 0; x < m; x++) {
            total = Numbers.add(total, valueAt(held.p, x));
        }
        return total;
    }

    // ---- all

    public int keep(int k) {
        if (!isKeptPlace(k)) {
            return OUTSIDE;
        }
        for (int i = 0; i < ROW_LIMIT; i++) {
            copy(rows[i].g, kept[k].g[i]);
            copy(rows[i].f, kept[k].f[i]);
        }
        copy(held.p, kept[k].p);
        kept[k].filled = true;
        return held.size();
    }

    public int back(int k) {
        if (!isKeptPlace(k)) {
            return OUTSIDE;
        }
        if (!kept[k].filled) {
            return NOT;
        }
        for (int i = 0; i < ROW_LIMIT; i++) {
            rows[i].become(kept[k].g[i], kept[k].f[i]);
        }
        copy(kept[k].p, held.p);
        held.forget();
        return held.size();
    }

    public int count(int what) {
        switch (what) {
            case 0:
                return held.degree();
            case 1:
                return held.undoable;
            case 2:
                return text.length;
            default:
                return isRow(what - 3) ? rows[what - 3].secondPower() : OUTSIDE;
        }
    }

    // ---- what the calls share

    private static boolean isRow(int row) {
        return row >= 0 && row < ROW_LIMIT;
    }

    private static boolean isPower(int k) {
        return k >= 0 && k <= TOP;
    }

    private static boolean isKeptPlace(int k) {
        return k >= 0 && k < KEPT_LIMIT;
    }

    private static void copy(int[] from, int[] to) {
        System.arraycopy(from, 0, to, 0, SIZE);
    }

    private static boolean areAlike(int[] a, int[] b) {
        for (int k = 0; k < SIZE; k++) {
            if (a[k] != b[k]) {
                return false;
            }
        }
        return true;
    }

    /** Makes into the one power k (0 to 8), a times. */
    private static void setMonomial(int[] into, int k, int a) {
        for (int i = 0; i < SIZE; i++) {
            into[i] = i == k ? a : 0;
        }
    }

    private static void addMultiple(int[] into, int[] a, int c) {
        for (int k = 0; k < SIZE; k++) {
            into[k] = Numbers.add(into[k], Numbers.multiply(a[k], c));
        }
    }

    /** Each number goes to the place behind it; the last one, which the caller knows to be 0, is lost. */
    private static void moveUp(int[] a) {
        for (int k = TOP; k > 0; k--) {
            a[k] = a[k - 1];
        }
        a[0] = 0;
    }

    private static int valueAt(int[] p, int x) {
        int total = 0;
        for (int k = TOP; k >= 0; k--) {
            total = Numbers.add(Numbers.multiply(total, x), p[k]);
        }
        return total;
    }

    /** The NUMBERS; a product of two fits an int, since 9972 times 9972 is below 2^31. */
    private static final class Numbers {
        private Numbers() {
        }

        static boolean holds(int a) {
            return a >= 0 && a < PRIME;
        }

        static int add(int a, int b) {
            return (a + b) % PRIME;
        }

        static int subtract(int a, int b) {
            return (a - b + PRIME) % PRIME;
        }

        static int multiply(int a, int b) {
            return a * b % PRIME;
        }

        /** Fermat's theorem: b to the power of the prime less 2 is 1 by b (0, if b is 0). */
        static int inverse(int b) {
            int result = 1;
            int square = b;
            for (int exponent = PRIME - 2; exponent > 0; exponent >>= 1) {
                if ((exponent & 1) == 1) {
                    result = result * square % PRIME;
                }
                square = square * square % PRIME;
            }
            return result;
        }
    }

    /** What is done with whole SERIES, and with POLYNOMIALS by SERIES. */
    private static final class Reckoner {
        /** e, q, l of t; any e(E), q(E), l(E) is one of these IN E. */
        final int[] exponential = new int[SIZE];
        final int[] quotient = new int[SIZE];
        final int[] logarithm = new int[SIZE];

        final int[] factorial = new int[SIZE];

        private final int[] nested = new int[SIZE];
        private final int[] lowered = new int[SIZE];
        private final int[] overLowered = new int[SIZE];
        private final int[] power = new int[SIZE];

        Reckoner() {
            int product = 1;
            for (int k = 0; k < SIZE; k++) {
                factorial[k] = product;
                exponential[k] = Numbers.inverse(product);
                product = Numbers.multiply(product, k + 1);
                quotient[k] = Numbers.inverse(product);
                int part = Numbers.inverse(k);
                logarithm[k] = k % 2 == 1 ? part : Numbers.subtract(0, part);
            }
        }

        /** From the top down, so that into may be a or b: no later place looks at what is written. */
        void multiply(int[] into, int[] a, int[] b) {
            for (int n = TOP; n >= 0; n--) {
                int total = 0;
                for (int j = 0; j <= n; j++) {
                    total = Numbers.add(total, Numbers.multiply(a[j], b[n - j]));
                }
                into[n] = total;
            }
        }

        /** h by m (a UNIT); into may be h, but not m. */
        void divide(int[] into, int[] h, int[] m) {
            int overFirst = Numbers.inverse(m[0]);
            for (int n = 0; n < SIZE; n++) {
                int total = h[n];
                for (int j = 1; j <= n; j++) {
                    total = Numbers.subtract(total, Numbers.multiply(m[j], into[n - j]));
                }
                into[n] = Numbers.multiply(total, overFirst);
            }
        }

        /** 1 by m (a UNIT); into is not m. */
        void overSeries(int[] into, int[] m) {
            setMonomial(into, 0, 1);
            divide(into, into, m);
        }

        /** h IN m (FLAT), by Horner's rule; into may be h or m. */
        void putInside(int[] into, int[] h, int[] m) {
            setMonomial(nested, 0, h[TOP]);
            for (int k = TOP - 1; k >= 0; k--) {
                multiply(nested, nested, m);
                nested[0] = Numbers.add(nested[0], h[k]);
            }
            copy(nested, into);
        }

        /** i(f) of a DELTA f, by Lagrange's rule: its t^n is that of t^(n-1) in (t by f)^n, by n. */
        void turnInsideOut(int[] into, int[] f) {
            lower(f);
            overSeries(overLowered, lowered);
            setMonomial(power, 0, 1);
            int[] result = nested;
            result[0] = 0;
            for (int n = 1; n < SIZE; n++) {
                multiply(power, power, overLowered);
                result[n] = Numbers.multiply(power[n - 1], Numbers.inverse(n));
            }
            copy(result, into);
        }

        /** f by t; its t^8 is not known, and no one that uses it looks there. */
        private void lower(int[] f) {
            for (int k = 0; k < TOP; k++) {
                lowered[k] = f[k + 1];
            }
            lowered[TOP] = 0;
        }

        /** e(a times t). */
        void exponentialOf(int[] into, int a) {
            int aToK = 1;
            for (int k = 0; k < SIZE; k++) {
                into[k] = Numbers.multiply(aToK, exponential[k]);
                aToK = Numbers.multiply(aToK, a);
            }
        }

        /** p becomes p TAKEN BY h: the j-th derivative of x^(k+j) is (k+j)! by k! times x^k. */
        void takeBy(int[] p, int[] h) {
            for (int k = 0; k < SIZE; k++) {
                int total = 0;
                for (int j = 0; k + j < SIZE; j++) {
                    int weighed = Numbers.multiply(p[k + j], factorial[k + j]);
                    total = Numbers.add(total, Numbers.multiply(weighed, h[j]));
                }
                p[k] = Numbers.multiply(total, exponential[k]);
            }
        }

        /**
         * p (without x^8) becomes what is 0 at 0 and, TAKEN BY a DELTA f, is p:
         * f is a derivative and then f by t, so p is taken by t by f and then integrated.
         */
        void untakeBy(int[] p, int[] f) {
            lower(f);
            overSeries(overLowered, lowered);
            takeBy(p, overLowered);
            moveUp(p);
            for (int k = 1; k < SIZE; k++) {
                p[k] = Numbers.multiply(p[k], Numbers.inverse(k));
            }
        }

        /** n! by k! times the number of t^n in first times turned^k: that of x^k in sn. */
        void tellPolynomials(int[][] into, int[] first, int[] turned) {
            copy(first, power);
            for (int k = 0; k < SIZE; k++) {
                for (int n = 0; n < SIZE; n++) {
                    int ratio = Numbers.multiply(factorial[n], exponential[k]);
                    into[n][k] = Numbers.multiply(ratio, power[n]);
                }
                multiply(power, power, turned);
            }
        }
    }

    /** A ROW: g and f, and what follows from them, reckoned once when they become others. */
    private static final class Row {
        final int[] g = new int[SIZE];
        final int[] f = new int[SIZE];
        final int[] overG = new int[SIZE];
        final int[] turnedF = new int[SIZE];
        final int[][] polynomials = new int[SIZE][SIZE];

        private final Reckoner reckoner;
        private final int[] first = new int[SIZE];
        private final int[] rest = new int[SIZE];

        Row(Reckoner reckoner) {
            this.reckoner = reckoner;
            setMonomial(g, 0, 1);
            setMonomial(f, 1, 1);
            reckonAll();
        }

        /** Takes a UNIT and a DELTA, neither of them its own; answers f1. */
        int become(int[] newG, int[] newF) {
            copy(newG, g);
            copy(newF, f);
            reckonAll();
            return f[1];
        }

        private void reckonAll() {
            reckoner.overSeries(overG, g);
            reckoner.turnInsideOut(turnedF, f);
            reckoner.putInside(first, overG, turnedF);
            reckoner.tellPolynomials(polynomials, first, turnedF);
        }

        int[] chosen(int what) {
            switch (what) {
                case 0:
                    return g;
                case 1:
                    return f;
                case 2:
                    return overG;
                default:
                    return turnedF;
            }
        }

        /** By what NUMBERS s0 to s8 tell p: from the top down, since sn has the degree n. */
        void tell(int[] into, int[] p) {
            copy(p, rest);
            for (int n = TOP; n >= 0; n--) {
                int share = Numbers.multiply(rest[n], Numbers.inverse(polynomials[n][n]));
                addMultiple(rest, polynomials[n], Numbers.subtract(0, share));
                into[n] = share;
            }
        }

        /** The sum of s0 to s8, each times its NUMBER. */
        void gather(int[] into, int[] shares) {
            setMonomial(into, 0, 0);
            for (int n = 0; n < SIZE; n++) {
                addMultiple(into, polynomials[n], shares[n]);
            }
        }

        int secondPower() {
            for (int k = 2; k < SIZE; k++) {
                if (f[k] != 0) {
                    return k;
                }
            }
            return NONE;
        }
    }

    /** The POLYNOMIAL IN HAND, and what it was ahead of the latest changes. */
    private static final class Hand {
        final int[] p = new int[SIZE];
        int undoable = 0;

        /** Used round and round: the oldest is written over when there is no other place. */
        private final int[][] past = new int[UNDO_LIMIT][SIZE];
        private int next = 0;

        void remember() {
            copy(p, past[next]);
            next = (next + 1) % UNDO_LIMIT;
            undoable = Math.min(undoable + 1, UNDO_LIMIT);
        }

        boolean restore() {
            if (undoable == 0) {
                return false;
            }
            next = (next + UNDO_LIMIT - 1) % UNDO_LIMIT;
            undoable--;
            copy(past[next], p);
            return true;
        }

        void forget() {
            undoable = 0;
        }

        boolean hasTopPower() {
            return p[TOP] != 0;
        }

        int degree() {
            for (int k = TOP; k >= 0; k--) {
                if (p[k] != 0) {
                    return k;
                }
            }
            return NONE;
        }

        /** How many NUMBERS of p are not 0. */
        int size() {
            int found = 0;
            for (int k = 0; k < SIZE; k++) {
                if (p[k] != 0) {
                    found++;
                }
            }
            return found;
        }
    }

    /** All ROWS and p, as they were kept; of a ROW g and f are enough, since the rest follows. */
    private static final class Kept {
        final int[][] g = new int[ROW_LIMIT][SIZE];
        final int[][] f = new int[ROW_LIMIT][SIZE];
        final int[] p = new int[SIZE];
        boolean filled = false;
    }

    /**
     * THE TEXT, looked through to its first FAULT. What it tells is put down as steps,
     * each behind the steps whose SERIES it works on, so that Reader needs no grammar.
     */
    private static final class Text {
        /** The step that puts down a NUMBER; every other step is the letter that tells it. */
        static final int NUMBER_STEP = '0';

        private static final int NO_LETTER = -1;

        final int[] steps = new int[TEXT_LIMIT];
        final int[] amounts = new int[TEXT_LIMIT];
        int stepCount = 0;
        int length = 0;

        private final int[] letters = new int[TEXT_LIMIT];

        /** The TOKEN looked at: where it begins (the length: there is none), where it ends, its first letter. */
        private int place = 0;
        private int end = 0;
        private int first = NO_LETTER;

        boolean append(int letter) {
            if (length >= TEXT_LIMIT) {
                return false;
            }
            letters[length] = letter;
            length++;
            return true;
        }

        void clear() {
            length = 0;
        }

        /** Where the FAULT is, or NONE; only with NONE the steps are whole. */
        int firstFault() {
            stepCount = 0;
            end = 0;
            toNextToken();
            if (!standsSum(0) || first != ';') {
                return place;
            }
            toNextToken();
            return standsSum(0) && place == length ? NONE : place;
        }

        // Each of these goes past what it looks for, or answers false with place at the FAULT.

        private boolean standsSum(int open) {
            if (!standsProduct(open)) {
                return false;
            }
            for (int i = 0; i < TEXT_LIMIT && (first == '+' || first == '-'); i++) {
                int sign = first;
                toNextToken();
                if (!standsProduct(open)) {
                    return false;
                }
                addStep(sign, 0);
            }
            return true;
        }

        private boolean standsProduct(int open) {
            if (!standsPower(open)) {
                return false;
            }
            for (int i = 0; i < TEXT_LIMIT && (first == '*' || first == '/'); i++) {
                int sign = first;
                toNextToken();
                if (!standsPower(open)) {
                    return false;
                }
                addStep(sign, 0);
            }
            return true;
        }

        private boolean standsPower(int open) {
            if (!standsThing(open)) {
                return false;
            }
            if (first != '^') {
                return true;
            }
            toNextToken();
            if (!isDigit(first) || end - place != 1) {
                return false;
            }
            addStep('^', amount());
            toNextToken();
            return true;
        }

        private boolean standsThing(int open) {
            if (first == 't') {
                addStep('t', 0);
                toNextToken();
                return true;
            }
            if (isDigit(first)) {
                if (!isNumber()) {
                    return false;
                }
                addStep(NUMBER_STEP, amount());
                toNextToken();
                return true;
            }
            int name = first;
            if (isName(name)) {
                toNextToken();
            }
            if (first != '(' || open >= OPEN_LIMIT) {
                return false;
            }
            toNextToken();
            if (!standsSum(open + 1) || first != ')') {
                return false;
            }
            toNextToken();
            if (isName(name)) {
                addStep(name, 0);
            }
            return true;
        }

        private void toNextToken() {
            place = end;
            while (place < length && letters[place] == ' ') {
                place++;
            }
            if (place >= length) {
                first = NO_LETTER;
                return;
            }
            first = letters[place];
            end = place + 1;
            if (isDigit(first)) {
                while (end < length && isDigit(letters[end])) {
                    end++;
                }
            }
        }

        private static boolean isName(int letter) {
            return letter == 'e' || letter == 'q' || letter == 'l' || letter == 'i';
        }

        private boolean isNumber() {
            return end - place <= 4 && Numbers.holds(amount());
        }

        /** What the row of digits looked at tells. */
        private int amount() {
            int total = 0;
            for (int i = place; i < end; i++) {
                total = 10 * total + (letters[i] - '0');
            }
            return total;
        }

        private static boolean isDigit(int letter) {
            return letter >= '0' && letter <= '9';
        }

        /** There are never more steps than letters; the test keeps the array safe all the same. */
        private void addStep(int step, int amount) {
            if (stepCount < TEXT_LIMIT) {
                steps[stepCount] = step;
                amounts[stepCount] = amount;
                stepCount++;
            }
        }
    }

    /** Goes through the steps of a TEXT without a FAULT, on a pile of SERIES. */
    private static final class Reader {
        private final Reckoner reckoner;
        private final int[][] pile = new int[PILE_LIMIT][SIZE];
        private final int[] base = new int[SIZE];
        private int height = 0;

        Reader(Reckoner reckoner) {
            this.reckoner = reckoner;
        }

        int[] toldG() {
            return pile[0];
        }

        int[] toldF() {
            return pile[1];
        }

        /** Whether nothing told is WRONG. */
        boolean reckon(Text text) {
            height = 0;
            for (int i = 0; i < text.stepCount; i++) {
                if (!goStep(text.steps[i], text.amounts[i])) {
                    return false;
                }
            }
            return height == 2 && isUnit(toldG()) && isDelta(toldF());
        }

        private boolean goStep(int step, int amount) {
            switch (step) {
                case Text.NUMBER_STEP:
                    return pushMonomial(0, amount);
                case 't':
                    return pushMonomial(1, 1);
                case '+':
                case '-':
                case '*':
                case '/':
                    return joinTwo(step);
                case '^':
                    return height > 0 && toPower(pile[height - 1], amount);
                default:
                    return height > 0 && turn(step, pile[height - 1]);
            }
        }

        private boolean pushMonomial(int k, int a) {
            if (height >= PILE_LIMIT) {
                return false;
            }
            setMonomial(pile[height], k, a);
            height++;
            return true;
        }

        private boolean joinTwo(int sign) {
            if (height < 2) {
                return false;
            }
            height--;
            int[] left = pile[height - 1];
            int[] right = pile[height];
            if (sign == '/' && !isUnit(right)) {
                return false;
            }
            switch (sign) {
                case '+':
                    addMultiple(left, right, 1);
                    break;
                case '-':
                    addMultiple(left, right, PRIME - 1);
                    break;
                case '*':
                    reckoner.multiply(left, left, right);
                    break;
                default:
                    reckoner.divide(left, left, right);
                    break;
            }
            return true;
        }

        private boolean toPower(int[] told, int n) {
            copy(told, base);
            setMonomial(told, 0, 1);
            for (int i = 0; i < n; i++) {
                reckoner.multiply(told, told, base);
            }
            return true;
        }

        /** Makes of E, in its place, what e, q, l or i makes of it; false, if E is not fit for it. */
        private boolean turn(int name, int[] told) {
            if (name == 'i') {
                if (!isDelta(told)) {
                    return false;
                }
                reckoner.turnInsideOut(told, told);
                return true;
            }
            if (told[0] != 0) {
                return false;
            }
            reckoner.putInside(told, seriesOf(name), told);
            return true;
        }

        private int[] seriesOf(int name) {
            switch (name) {
                case 'e':
                    return reckoner.exponential;
                case 'q':
                    return reckoner.quotient;
                default:
                    return reckoner.logarithm;
            }
        }

        private static boolean isUnit(int[] h) {
            return h[0] != 0;
        }

        private static boolean isDelta(int[] h) {
            return h[0] == 0 && h[1] != 0;
        }
    }
}
