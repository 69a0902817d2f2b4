import java.util.ArrayList;
import java.util.List;
import java.util.Random;

/**
 * Long runs of calls, each answer compared with that of a second desk, which reckons
 * straight from the document's words and shares no rule with the class.
 */
public final class ModelTest {
    private static final int RUNS = 1500;
    private static final int CALLS = 512;
    private static final int MOST_SHOWN = 20;

    private ModelTest() {
    }

    public static void main(String[] args) {
        int wrong = 0;
        long calls = 0;
        int reads = 0;
        for (int run = 0; run < RUNS && wrong < MOST_SHOWN; run++) {
            Caller caller = new Caller(new Random(run));
            for (int i = 0; i < CALLS; i++) {
                calls++;
                if (!caller.goOn()) {
                    wrong++;
                    System.out.println("run " + run + ", call " + i + ": " + caller.latest);
                    break;
                }
            }
            reads += caller.goodReads;
        }
        System.out.println(calls + " calls, " + reads + " rows read, " + wrong + " wrong");
        if (wrong != 0 || reads < RUNS) {
            System.exit(1);
        }
    }

    /** Makes calls of both desks. */
    private static final class Caller {
        private static final int[] ODD = {-1, 9, 4, 7, 9973, 500, 501, Integer.MIN_VALUE, Integer.MAX_VALUE};

        final Random random;
        final ShadowRowDesk desk = new ShadowRowDesk();
        final Model model = new Model();
        String latest = "";
        int goodReads = 0;
        private String ahead = "";

        Caller(Random random) {
            this.random = random;
        }

        boolean goOn() {
            if (!ahead.isEmpty()) {
                int letter = ahead.charAt(0);
                ahead = ahead.substring(1);
                return same("write " + letter, desk.write(letter), model.write(letter));
            }
            int which = random.nextInt(40);
            if (which < 2 && model.text.length() < 100) {
                ahead = new Teller(random).text();
                return same("erase", desk.erase(), model.erase());
            }
            return which < 20 ? callRows(which) : callHand(which);
        }

        private boolean callRows(int which) {
            int a = row();
            int b = row();
            int c = row();
            switch (which) {
                case 2: case 3: case 4: {
                    int got = desk.read(a);
                    goodReads += got >= 0 ? 1 : 0;
                    return same("read " + a, got, model.read(a));
                }
                case 5: return same("fault", desk.fault(), model.fault());
                case 6: return same("compose " + a + " " + b + " " + c, desk.compose(a, b, c), model.compose(a, b, c));
                case 7: return same("invert " + a + " " + b, desk.invert(a, b), model.invert(a, b));
                case 8: {
                    int part = upTo(1);
                    return same("part " + a + " " + b + " " + part, desk.part(a, b, part), model.part(a, b, part));
                }
                case 9: {
                    int by = number();
                    return same("move " + a + " " + b + " " + by, desk.move(a, b, by), model.move(a, b, by));
                }
                case 10: {
                    int by = number();
                    return same("stretch " + a + " " + b + " " + by, desk.stretch(a, b, by), model.stretch(a, b, by));
                }
                case 11: {
                    int what = upTo(3);
                    int k = upTo(8);
                    return same("series " + a + " " + what + " " + k, desk.series(a, what, k),
                            model.series(a, what, k));
                }
                case 12: case 13: {
                    int n = upTo(8);
                    int k = upTo(8);
                    return same("polynomial " + a + " " + n + " " + k, desk.polynomial(a, n, k),
                            model.polynomial(a, n, k));
                }
                case 14: {
                    int n = upTo(8);
                    int x = number();
                    return same("value " + a + " " + n + " " + x, desk.value(a, n, x), model.value(a, n, x));
                }
                case 15: case 16: {
                    int n = upTo(8);
                    int k = upTo(8);
                    return same("connect " + a + " " + b + " " + n + " " + k, desk.connect(a, b, n, k),
                            model.connect(a, b, n, k));
                }
                case 17: return same("differ " + a + " " + b, desk.differ(a, b), model.differ(a, b));
                case 18: {
                    int letter = random.nextInt(4) == 0 ? random.nextInt(300) - 20 : "1t+;) (9".charAt(random.nextInt(8));
                    return same("write " + letter, desk.write(letter), model.write(letter));
                }
                default: {
                    int what = upTo(6);
                    return same("count " + what, desk.count(what), model.count(what));
                }
            }
        }

        private boolean callHand(int which) {
            int a = row();
            int n = upTo(8);
            int x = number();
            switch (which) {
                case 20: return same("take " + a + " " + n, desk.take(a, n), model.take(a, n));
                case 21: case 22: return same("put " + n + " " + x, desk.put(n, x), model.put(n, x));
                case 23: case 24:
                    return same("plus " + a + " " + n + " " + x, desk.plus(a, n, x), model.plus(a, n, x));
                case 25: case 26: {
                    int what = upTo(2);
                    return same("act " + a + " " + what, desk.act(a, what), model.act(a, what));
                }
                case 27: return same("raise " + a, desk.raise(a), model.raise(a));
                case 28: return same("shift " + x, desk.shift(x), model.shift(x));
                case 29: return same("times", desk.times(), model.times());
                case 30: {
                    int b = row();
                    return same("swap " + a + " " + b, desk.swap(a, b), model.swap(a, b));
                }
                case 31: return same("climb " + a, desk.climb(a), model.climb(a));
                case 32: return same("weigh " + a, desk.weigh(a), model.weigh(a));
                case 33: return same("undo", desk.undo(), model.undo());
                case 34: return same("hand " + n, desk.hand(n), model.hand(n));
                case 35: return same("at " + x, desk.at(x), model.at(x));
                case 36: return same("expand " + a + " " + n, desk.expand(a, n), model.expand(a, n));
                case 37: {
                    int m = upTo(500);
                    return same("sum " + m, desk.sum(m), model.sum(m));
                }
                case 38: {
                    int k = upTo(1);
                    return same("keep " + k, desk.keep(k), model.keep(k));
                }
                default: {
                    int k = upTo(1);
                    return random.nextInt(3) == 0 ? same("back " + k, desk.back(k), model.back(k))
                            : same("hand " + n, desk.hand(n), model.hand(n));
                }
            }
        }

        private boolean same(String call, int got, int want) {
            latest = call + " answered " + got + ", due is " + want + " (text '" + model.text + "')";
            return got == want;
        }

        private int row() {
            return upTo(3);
        }

        private int upTo(int most) {
            return random.nextInt(60) == 0 ? ODD[random.nextInt(ODD.length)] : random.nextInt(most + 1);
        }

        private int number() {
            return random.nextInt(4) == 0 ? random.nextInt(4) : upTo(9972);
        }
    }

    /** Tells texts: most of them without a fault, some spoilt. */
    private static final class Teller {
        private final Random random;

        Teller(Random random) {
            this.random = random;
        }

        String text() {
            String told = (random.nextInt(3) == 0 ? "1" : unit(2)) + blanks() + ";" + blanks() + delta(2);
            if (random.nextInt(5) == 0) {
                told = sum(3) + ";" + sum(3);
            }
            if (random.nextInt(4) == 0) {
                told = spoilt(told);
            }
            return told.length() > 125 ? told.substring(0, 125) : told;
        }

        private String spoilt(String told) {
            String letters = "0123456789t+-*/^();eqli x ";
            StringBuilder all = new StringBuilder(told);
            for (int i = random.nextInt(3); i >= 0; i--) {
                int place = random.nextInt(all.length() + 1);
                char letter = letters.charAt(random.nextInt(letters.length()));
                switch (random.nextInt(3)) {
                    case 0 -> all.insert(place, letter);
                    case 1 -> all.setCharAt(Math.min(place, all.length() - 1), letter);
                    default -> all.setLength(Math.max(1, place));
                }
            }
            return all.toString();
        }

        private String blanks() {
            return random.nextInt(6) == 0 ? " " : "";
        }

        private String number() {
            return switch (random.nextInt(4)) {
                case 0 -> Integer.toString(random.nextInt(9973));
                case 1 -> "000" + random.nextInt(10);
                default -> Integer.toString(1 + random.nextInt(5));
            };
        }

        private String unit(int depth) {
            return switch (depth <= 0 ? random.nextInt(2) : random.nextInt(6)) {
                case 0 -> Integer.toString(1 + random.nextInt(9972));
                case 1 -> "(" + (1 + random.nextInt(9)) + blanks() + "+" + flat(0) + ")";
                case 2 -> "e(" + flat(depth - 1) + ")";
                case 3 -> "q(" + flat(depth - 1) + ")";
                case 4 -> unit(depth - 1) + "/" + unit(depth - 1);
                default -> unit(0) + "*(" + unit(depth - 1) + ")^" + random.nextInt(10);
            };
        }

        private String flat(int depth) {
            return switch (depth <= 0 ? random.nextInt(3) : random.nextInt(5)) {
                case 0 -> number() + "*t";
                case 1 -> "t^" + (1 + random.nextInt(9));
                case 2 -> "t";
                case 3 -> "l(" + flat(depth - 1) + ")";
                default -> delta(depth - 1) + "*" + unit(depth - 1);
            };
        }

        private String delta(int depth) {
            return switch (depth <= 0 ? random.nextInt(2) : random.nextInt(8)) {
                case 0 -> "t";
                case 1 -> (1 + random.nextInt(9972)) + "*" + blanks() + "t";
                case 2 -> "(e(" + delta(depth - 1) + ")-1)";
                case 3 -> "l(" + delta(depth - 1) + ")";
                case 4 -> "i(" + delta(depth - 1) + ")";
                case 5 -> delta(depth - 1) + "/" + unit(depth - 1);
                case 6 -> "(" + delta(depth - 1) + "-" + number() + "*t^" + (2 + random.nextInt(7)) + ")";
                default -> "t*" + unit(depth - 1);
            };
        }

        private String sum(int depth) {
            StringBuilder all = new StringBuilder();
            for (int i = random.nextInt(3); i >= 0; i--) {
                all.append(thing(depth)).append(blanks());
                if (random.nextInt(3) == 0) {
                    all.append('^').append(blanks()).append(random.nextInt(10));
                }
                if (i > 0) {
                    all.append("+-*/".charAt(random.nextInt(4))).append(blanks());
                }
            }
            return all.toString();
        }

        private String thing(int depth) {
            int which = depth <= 0 ? random.nextInt(2) : random.nextInt(4);
            return switch (which) {
                case 0 -> number();
                case 1 -> "t";
                case 2 -> blanks() + "(" + sum(depth - 1) + ")";
                default -> "eqli".charAt(random.nextInt(4)) + blanks() + "(" + sum(depth - 1) + ")";
            };
        }
    }

    /** The desk by the document's words. */
    private static final class Model {
        private static final int P = 9973;
        private static final int N = 9;
        private static final int NONE = -1, UNKNOWN = -2, OUTSIDE = -3, NOT = -4, FULL = -5, WRONG = -6;

        String text = "";
        private long[][] g = new long[4][];
        private long[][] f = new long[4][];
        private long[] p = new long[N];
        private final List<long[]> past = new ArrayList<>();
        private final long[][][] kept = new long[2][][];
        private final long[][][] told = new long[4][][];

        Model() {
            for (int row = 0; row < 4; row++) {
                become(row, term(0, 1), term(1, 1));
            }
        }

        // -- numbers and series

        private static long left(long a) {
            return Math.floorMod(a, (long) P);
        }

        private static long over(long b) {
            long old = P;
            long now = left(b);
            long oldShare = 0;
            long share = 1;
            while (now != 0) {
                long q = old / now;
                long rest = old - q * now;
                old = now;
                now = rest;
                long next = oldShare - q * share;
                oldShare = share;
                share = next;
            }
            return left(oldShare);
        }

        private static long[] term(int k, long a) {
            long[] h = new long[N];
            h[k] = left(a);
            return h;
        }

        private static long[] add(long[] a, long[] b, long c) {
            long[] h = new long[N];
            for (int k = 0; k < N; k++) {
                h[k] = left(a[k] + c * b[k]);
            }
            return h;
        }

        private static long[] product(long[] a, long[] b) {
            long[] h = new long[N];
            for (int i = 0; i < N; i++) {
                for (int j = 0; i + j < N; j++) {
                    h[i + j] = left(h[i + j] + a[i] * b[j]);
                }
            }
            return h;
        }

        private static long[] power(long[] a, int n) {
            long[] h = term(0, 1);
            for (int i = 0; i < n; i++) {
                h = product(h, a);
            }
            return h;
        }

        /** The series that times m is h, by linear equations. */
        private static long[] quotient(long[] h, long[] m) {
            long[][] lines = new long[N][N + 1];
            for (int n = 0; n < N; n++) {
                for (int j = 0; j <= n; j++) {
                    lines[n][j] = m[n - j];
                }
                lines[n][N] = h[n];
            }
            return solved(lines);
        }

        private static long[] in(long[] h, long[] m) {
            long[] all = new long[N];
            for (int k = 0; k < N; k++) {
                all = add(all, power(m, k), h[k]);
            }
            return all;
        }

        private static long factorial(int n) {
            return n == 0 ? 1 : n * factorial(n - 1);
        }

        private static long[] called(char name, long[] h) {
            if (name == 'i') {
                return insideOut(h);
            }
            long[] all = new long[N];
            for (int k = 0; k < N; k++) {
                long share;
                if (name == 'e') {
                    share = over(factorial(k));
                } else if (name == 'q') {
                    share = over(factorial(k + 1));
                } else {
                    share = k == 0 ? 0 : (k % 2 == 1 ? over(k) : -over(k));
                }
                all = add(all, power(h, k), share);
            }
            return all;
        }

        /** m by which h IN m is t: each number of m mends what is still wrong at its place. */
        private static long[] insideOut(long[] h) {
            long[] m = new long[N];
            for (int n = 1; n < N; n++) {
                long have = in(h, m)[n];
                m[n] = left(((n == 1 ? 1 : 0) - have) * over(h[1]));
            }
            return m;
        }

        /** Gauss's way; the last number of a line is what it comes to; what is left free would be 0. */
        private static long[] solved(long[][] lines) {
            int used = 0;
            int[] lineOf = new int[N];
            for (int column = 0; column < N; column++) {
                int found = used;
                while (lines[found][column] == 0) {
                    found++;
                }
                long[] line = lines[found];
                lines[found] = lines[used];
                lines[used] = line;
                long scale = over(line[column]);
                for (int i = 0; i <= N; i++) {
                    line[i] = left(line[i] * scale);
                }
                for (long[] each : lines) {
                    if (each != line && each[column] != 0) {
                        long share = each[column];
                        for (int i = 0; i <= N; i++) {
                            each[i] = left(each[i] - share * line[i]);
                        }
                    }
                }
                lineOf[column] = used;
                used++;
            }
            long[] found = new long[N];
            for (int column = 0; column < N; column++) {
                found[column] = lines[lineOf[column]][N];
            }
            return found;
        }

        // -- polynomials

        private static long[] derivative(long[] a) {
            long[] d = new long[N];
            for (int k = 1; k < N; k++) {
                d[k - 1] = left(k * a[k]);
            }
            return d;
        }

        private static long[] takenBy(long[] a, long[] h) {
            long[] all = new long[N];
            long[] now = a;
            for (int j = 0; j < N; j++) {
                all = add(all, now, h[j]);
                now = derivative(now);
            }
            return all;
        }

        private static long valueOf(long[] a, long x) {
            long all = 0;
            long power = 1;
            for (int k = 0; k < N; k++) {
                all = left(all + a[k] * power);
                power = left(power * x);
            }
            return all;
        }

        /** What is aim if TAKEN BY h, and first if TAKEN BY begin at 0. */
        private static long[] takenUp(long[] h, long[] aim, long[] begin, long first) {
            long[][] lines = new long[N + 1][N + 1];
            for (int k = 0; k < N; k++) {
                long[] taken = takenBy(term(k, 1), h);
                for (int line = 0; line < N; line++) {
                    lines[line][k] = taken[line];
                }
                lines[N][k] = takenBy(term(k, 1), begin)[0];
            }
            for (int line = 0; line < N; line++) {
                lines[line][N] = aim[line];
            }
            lines[N][N] = first;
            return solved(lines);
        }

        private void become(int row, long[] newG, long[] newF) {
            g[row] = newG;
            f[row] = newF;
            told[row] = new long[N][];
            long[] now = new long[N];
            for (int n = 0; n < N; n++) {
                long[] aim = add(new long[N], now, n);
                now = takenUp(newF, aim, newG, n == 0 ? 1 : 0);
                told[row][n] = now;
            }
        }

        private long[] sharesOf(long[] a, int row) {
            long[][] lines = new long[N][N + 1];
            for (int line = 0; line < N; line++) {
                for (int n = 0; n < N; n++) {
                    lines[line][n] = told[row][n][line];
                }
                lines[line][N] = a[line];
            }
            return solved(lines);
        }

        private long[] gathered(long[] shares, int row) {
            long[] all = new long[N];
            for (int n = 0; n < N; n++) {
                all = add(all, told[row][n], shares[n]);
            }
            return all;
        }

        // -- what is told

        int write(int letter) {
            if (letter < 0 || letter > 255) {
                return OUTSIDE;
            }
            if (text.length() == 120) {
                return FULL;
            }
            text += (char) letter;
            return text.length();
        }

        int erase() {
            int had = text.length();
            text = "";
            return had;
        }

        /** A walk over the tokens with what may come next: T a thing, ( a bracket, ^ power or sign, N, S a sign. */
        int fault() {
            char next = 'T';
            int open = 0;
            boolean second = false;
            int i = 0;
            while (i < text.length()) {
                char c = text.charAt(i);
                if (c == ' ') {
                    i++;
                    continue;
                }
                int end = i + 1;
                boolean digits = Character.isDigit(c) && c < 128;
                while (digits && end < text.length() && "0123456789".indexOf(text.charAt(end)) >= 0) {
                    end++;
                }
                String token = text.substring(i, end);
                if (next == 'T' && digits) {
                    if (!token.matches("[0-9]{1,4}") || Integer.parseInt(token) > 9972) {
                        return i;
                    }
                    next = '^';
                } else if (next == 'N') {
                    if (!token.matches("[0-9]")) {
                        return i;
                    }
                    next = 'S';
                } else if (next == 'T' && c == 't') {
                    next = '^';
                } else if (next == 'T' && "eqli".indexOf(c) >= 0) {
                    next = '(';
                } else if ((next == 'T' || next == '(') && c == '(' && open < 6) {
                    open++;
                    next = 'T';
                } else if (next == '^' && c == '^') {
                    next = 'N';
                } else if ((next == '^' || next == 'S') && "+-*/".indexOf(c) >= 0) {
                    next = 'T';
                } else if ((next == '^' || next == 'S') && c == ')' && open > 0) {
                    open--;
                    next = '^';
                } else if ((next == '^' || next == 'S') && c == ';' && open == 0 && !second) {
                    second = true;
                    next = 'T';
                } else {
                    return i;
                }
                i = end;
            }
            return (next == '^' || next == 'S') && open == 0 && second ? NONE : text.length();
        }

        int read(int row) {
            if (noRow(row)) {
                return UNKNOWN;
            }
            if (fault() != NONE) {
                return NOT;
            }
            String whole = text.replace(" ", "");
            int middle = whole.indexOf(';');
            long[] newG = reckoned(whole.substring(0, middle));
            long[] newF = reckoned(whole.substring(middle + 1));
            if (newG == null || newF == null || newG[0] == 0 || newF[0] != 0 || newF[1] == 0) {
                return WRONG;
            }
            become(row, newG, newF);
            text = "";
            return (int) newF[1];
        }

        /** What a sum without blanks tells, by its last sign outside of brackets; null: it is wrong. */
        private static long[] reckoned(String s) {
            int at = lastOutside(s, "+-");
            if (at < 0) {
                at = lastOutside(s, "*/");
            }
            if (at >= 0) {
                return joined(s.charAt(at), reckoned(s.substring(0, at)), reckoned(s.substring(at + 1)));
            }
            at = lastOutside(s, "^");
            if (at >= 0) {
                long[] thing = reckoned(s.substring(0, at));
                return thing == null ? null : power(thing, s.charAt(at + 1) - '0');
            }
            char first = s.charAt(0);
            if (first == 't') {
                return term(1, 1);
            }
            if (first == '(') {
                return reckoned(s.substring(1, s.length() - 1));
            }
            if ("eqli".indexOf(first) < 0) {
                return term(0, Integer.parseInt(s));
            }
            long[] inner = reckoned(s.substring(2, s.length() - 1));
            if (inner == null || inner[0] != 0 || first == 'i' && inner[1] == 0) {
                return null;
            }
            return called(first, inner);
        }

        private static long[] joined(char sign, long[] one, long[] other) {
            if (one == null || other == null || sign == '/' && other[0] == 0) {
                return null;
            }
            return switch (sign) {
                case '+' -> add(one, other, 1);
                case '-' -> add(one, other, -1);
                case '*' -> product(one, other);
                default -> quotient(one, other);
            };
        }

        private static int lastOutside(String s, String signs) {
            int open = 0;
            for (int i = s.length() - 1; i >= 0; i--) {
                char c = s.charAt(i);
                open += c == ')' ? 1 : c == '(' ? -1 : 0;
                if (open == 0 && signs.indexOf(c) >= 0) {
                    return i;
                }
            }
            return -1;
        }

        // -- rows

        private static boolean noRow(int row) {
            return row < 0 || row > 3;
        }

        private static boolean notIn(int a, int most) {
            return a < 0 || a > most;
        }

        int compose(int row, int one, int other) {
            if (noRow(row) || noRow(one) || noRow(other)) {
                return UNKNOWN;
            }
            become(row, product(g[other], in(g[one], f[other])), in(f[one], f[other]));
            return (int) f[row][1];
        }

        int invert(int row, int of) {
            if (noRow(row) || noRow(of)) {
                return UNKNOWN;
            }
            long[] turned = insideOut(f[of]);
            become(row, quotient(term(0, 1), in(g[of], turned)), turned);
            return (int) f[row][1];
        }

        int part(int row, int of, int part) {
            if (noRow(row) || noRow(of)) {
                return UNKNOWN;
            }
            if (notIn(part, 1)) {
                return OUTSIDE;
            }
            become(row, part == 0 ? term(0, 1) : g[of], part == 1 ? term(1, 1) : f[of]);
            return (int) f[row][1];
        }

        int move(int row, int of, int a) {
            if (noRow(row) || noRow(of)) {
                return UNKNOWN;
            }
            if (notIn(a, P - 1)) {
                return OUTSIDE;
            }
            become(row, product(g[of], called('e', term(1, -a))), f[of]);
            return (int) f[row][1];
        }

        int stretch(int row, int of, int c) {
            if (noRow(row) || noRow(of)) {
                return UNKNOWN;
            }
            if (c == 0 || notIn(c, P - 1)) {
                return OUTSIDE;
            }
            become(row, in(g[of], term(1, over(c))), in(f[of], term(1, over(c))));
            return (int) f[row][1];
        }

        int series(int row, int what, int k) {
            if (noRow(row)) {
                return UNKNOWN;
            }
            if (notIn(what, 3) || notIn(k, 8)) {
                return OUTSIDE;
            }
            return (int) chosen(row, what)[k];
        }

        private long[] chosen(int row, int what) {
            return switch (what) {
                case 0 -> g[row];
                case 1 -> f[row];
                case 2 -> quotient(term(0, 1), g[row]);
                default -> insideOut(f[row]);
            };
        }

        int polynomial(int row, int n, int k) {
            if (noRow(row)) {
                return UNKNOWN;
            }
            return notIn(n, 8) || notIn(k, 8) ? OUTSIDE : (int) told[row][n][k];
        }

        int value(int row, int n, int x) {
            if (noRow(row)) {
                return UNKNOWN;
            }
            return notIn(n, 8) || notIn(x, P - 1) ? OUTSIDE : (int) valueOf(told[row][n], x);
        }

        int connect(int one, int other, int n, int k) {
            if (noRow(one) || noRow(other)) {
                return UNKNOWN;
            }
            return notIn(n, 8) || notIn(k, 8) ? OUTSIDE : (int) sharesOf(told[one][n], other)[k];
        }

        int differ(int one, int other) {
            if (noRow(one) || noRow(other)) {
                return UNKNOWN;
            }
            for (int n = 0; n < N; n++) {
                if (!java.util.Arrays.equals(told[one][n], told[other][n])) {
                    return n;
                }
            }
            return NONE;
        }

        // -- in hand

        private void change(long[] next) {
            past.add(p);
            if (past.size() > 8) {
                past.remove(0);
            }
            p = next;
        }

        int take(int row, int n) {
            if (noRow(row)) {
                return UNKNOWN;
            }
            if (notIn(n, 8)) {
                return OUTSIDE;
            }
            change(told[row][n]);
            return (int) p[n];
        }

        int put(int k, int a) {
            if (notIn(k, 8) || notIn(a, P - 1)) {
                return OUTSIDE;
            }
            int was = (int) p[k];
            long[] next = p.clone();
            next[k] = a;
            change(next);
            return was;
        }

        int plus(int row, int n, int c) {
            if (noRow(row)) {
                return UNKNOWN;
            }
            if (notIn(n, 8) || notIn(c, P - 1)) {
                return OUTSIDE;
            }
            change(add(p, told[row][n], c));
            return (int) p[0];
        }

        int act(int row, int what) {
            if (noRow(row)) {
                return UNKNOWN;
            }
            if (notIn(what, 2)) {
                return OUTSIDE;
            }
            change(takenBy(p, chosen(row, what)));
            return (int) p[0];
        }

        int raise(int row) {
            if (noRow(row)) {
                return UNKNOWN;
            }
            if (p[8] != 0) {
                return NOT;
            }
            change(takenUp(f[row], p, term(0, 1), 0));
            return (int) valueOf(p, 1);
        }

        int shift(int a) {
            if (notIn(a, P - 1)) {
                return OUTSIDE;
            }
            long[] line = add(term(1, 1), term(0, 1), a);
            long[] all = new long[N];
            for (int k = 0; k < N; k++) {
                all = add(all, power(line, k), p[k]);
            }
            change(all);
            return (int) p[0];
        }

        int times() {
            if (p[8] != 0) {
                return NOT;
            }
            change(product(p, term(1, 1)));
            return (int) valueOf(p, 1);
        }

        int swap(int one, int other) {
            if (noRow(one) || noRow(other)) {
                return UNKNOWN;
            }
            change(gathered(sharesOf(p, one), other));
            return (int) p[0];
        }

        int climb(int row) {
            if (noRow(row)) {
                return UNKNOWN;
            }
            if (p[8] != 0) {
                return NOT;
            }
            change(gathered(product(sharesOf(p, row), term(1, 1)), row));
            return (int) p[0];
        }

        int weigh(int row) {
            if (noRow(row)) {
                return UNKNOWN;
            }
            long[] shares = sharesOf(p, row);
            for (int k = 0; k < N; k++) {
                shares[k] = left(k * shares[k]);
            }
            change(gathered(shares, row));
            return (int) p[0];
        }

        int undo() {
            if (past.isEmpty()) {
                return NOT;
            }
            p = past.remove(past.size() - 1);
            return past.size();
        }

        int hand(int k) {
            return notIn(k, 8) ? OUTSIDE : (int) p[k];
        }

        int at(int x) {
            return notIn(x, P - 1) ? OUTSIDE : (int) valueOf(p, x);
        }

        int expand(int row, int k) {
            if (noRow(row)) {
                return UNKNOWN;
            }
            return notIn(k, 8) ? OUTSIDE : (int) sharesOf(p, row)[k];
        }

        int sum(int m) {
            if (notIn(m, 500)) {
                return OUTSIDE;
            }
            long all = 0;
            for (int x = 0; x < m; x++) {
                all += valueOf(p, x);
            }
            return (int) left(all);
        }

        // -- all

        private int size() {
            int found = 0;
            for (long a : p) {
                found += a != 0 ? 1 : 0;
            }
            return found;
        }

        int keep(int k) {
            if (notIn(k, 1)) {
                return OUTSIDE;
            }
            kept[k] = new long[][] {g[0], g[1], g[2], g[3], f[0], f[1], f[2], f[3], p};
            return size();
        }

        int back(int k) {
            if (notIn(k, 1)) {
                return OUTSIDE;
            }
            if (kept[k] == null) {
                return NOT;
            }
            for (int row = 0; row < 4; row++) {
                become(row, kept[k][row], kept[k][4 + row]);
            }
            p = kept[k][8];
            past.clear();
            return size();
        }

        int count(int what) {
            if (notIn(what, 6)) {
                return OUTSIDE;
            }
            if (what == 1) {
                return past.size();
            }
            if (what == 2) {
                return text.length();
            }
            int found = NONE;
            for (int k = N - 1; k >= 0; k--) {
                if (what == 0 && p[k] != 0) {
                    return k;
                }
                if (what > 2 && k > 1 && f[what - 3][k] != 0) {
                    found = k;
                }
            }
            return found;
        }
    }
}
