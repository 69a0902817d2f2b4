import java.util.function.IntUnaryOperator;

/** For each promise of the document: ordinary inputs, the edges that it names, and wrong inputs. */
public final class PromisesTest {
    private static final int PRIME = 9973;
    private static final int NONE = -1, UNKNOWN = -2, OUTSIDE = -3, NOT = -4, FULL = -5, WRONG = -6;
    private static final int[] NO_ROWS = {-1, 4, Integer.MIN_VALUE, Integer.MAX_VALUE};
    private static final int[] NO_POWERS = {-1, 9, Integer.MIN_VALUE, Integer.MAX_VALUE};
    private static final int[] NO_NUMBERS = {-1, PRIME, Integer.MIN_VALUE, Integer.MAX_VALUE};

    private static final String HERMITE = "e(t^2/2);t";
    private static final String BERNOULLI = "q(t);t";
    private static final String LAGUERRE = "1-t;t/(t-1)";
    private static final String FALLING = "1;e(t)-1";
    private static final String RISING = "1;1-e(0-t)";
    private static final String ABEL = "1;t*e(t)";

    private static int wrong = 0;
    private static int checks = 0;

    private PromisesTest() {
    }

    public static void main(String[] args) {
        newObject();
        write();
        erase();
        fault();
        faultInBrackets();
        read();
        readReckons();
        readRefuses();
        compose();
        invert();
        part();
        move();
        stretch();
        series();
        polynomial();
        value();
        connect();
        differ();
        take();
        put();
        plus();
        act();
        raise();
        shift();
        times();
        swap();
        climb();
        weigh();
        undo();
        hand();
        at();
        expand();
        sum();
        keep();
        back();
        count();
        System.out.println(checks + " checks, " + wrong + " wrong");
        if (wrong != 0) {
            System.exit(1);
        }
    }

    // ---- helpers

    private static void due(String what, int got, int want) {
        checks++;
        if (got != want) {
            wrong++;
            System.out.println(what + " answered " + got + ", due is " + want);
        }
    }

    private static int left(long a) {
        return (int) Math.floorMod(a, (long) PRIME);
    }

    /** a by b, found by trying. */
    private static int by(long a, long b) {
        for (int q = 0; q < PRIME; q++) {
            if (left(q * (long) left(b)) == left(a)) {
                return q;
            }
        }
        throw new IllegalStateException("no NUMBER");
    }

    private static void letters(ShadowRowDesk desk, String text) {
        for (int i = 0; i < text.length(); i++) {
            desk.write(text.charAt(i));
        }
    }

    private static int readText(ShadowRowDesk desk, int row, String text) {
        letters(desk, text);
        return desk.read(row);
    }

    private static ShadowRowDesk deskWith(String... texts) {
        ShadowRowDesk desk = new ShadowRowDesk();
        for (int row = 0; row < texts.length; row++) {
            if (readText(desk, row, texts[row]) < 0) {
                throw new IllegalStateException(texts[row]);
            }
        }
        return desk;
    }

    private static void putAll(ShadowRowDesk desk, long... numbers) {
        for (int k = 0; k < 9; k++) {
            desk.put(k, k < numbers.length ? left(numbers[k]) : 0);
        }
    }

    private static void dueHand(String what, ShadowRowDesk desk, long... numbers) {
        for (int k = 0; k < 9; k++) {
            due(what + ": hand(" + k + ")", desk.hand(k), k < numbers.length ? left(numbers[k]) : 0);
        }
    }

    private static void duePolynomial(ShadowRowDesk desk, int row, int n, long... numbers) {
        for (int k = 0; k < 9; k++) {
            due("polynomial(" + row + ", " + n + ", " + k + ")", desk.polynomial(row, n, k),
                    k < numbers.length ? left(numbers[k]) : 0);
        }
    }

    private static void dueSeries(ShadowRowDesk desk, int row, int what, long... numbers) {
        for (int k = 0; k < 9; k++) {
            due("series(" + row + ", " + what + ", " + k + ")", desk.series(row, what, k),
                    k < numbers.length ? left(numbers[k]) : 0);
        }
    }

    private static void dueFor(String what, int[] inputs, int want, IntUnaryOperator call) {
        for (int input : inputs) {
            due(what + " with " + input, call.applyAsInt(input), want);
        }
    }

    /** What a desk tells of itself, so that a refused call can be shown to change nothing. */
    private static String state(ShadowRowDesk desk) {
        StringBuilder all = new StringBuilder();
        for (int row = 0; row < 4; row++) {
            for (int k = 0; k < 9; k++) {
                all.append(desk.series(row, 0, k)).append(' ').append(desk.series(row, 1, k)).append(' ');
            }
        }
        for (int k = 0; k < 9; k++) {
            all.append(desk.hand(k)).append(' ');
        }
        return all.append(desk.count(1)).append(' ').append(desk.count(2)).append(' ').append(desk.fault()).toString();
    }

    private static void dueSame(String what, ShadowRowDesk desk, String before) {
        due(what + " left all as it was", state(desk).equals(before) ? 1 : 0, 1);
    }

    // ---- promise 1

    private static void newObject() {
        ShadowRowDesk desk = new ShadowRowDesk();
        for (int row = 0; row < 4; row++) {
            dueSeries(desk, row, 0, 1);
            dueSeries(desk, row, 1, 0, 1);
            dueSeries(desk, row, 2, 1);
            dueSeries(desk, row, 3, 0, 1);
            for (int n = 0; n < 9; n++) {
                long[] power = new long[9];
                power[n] = 1;
                duePolynomial(desk, row, n, power);
            }
        }
        dueHand("new", desk);
        due("new count(1)", desk.count(1), 0);
        due("new count(2)", desk.count(2), 0);
        due("new back(0)", desk.back(0), NOT);
        due("new back(1)", desk.back(1), NOT);
        due("NONE", ShadowRowDesk.NONE, NONE);
        due("UNKNOWN", ShadowRowDesk.UNKNOWN, UNKNOWN);
        due("OUTSIDE", ShadowRowDesk.OUTSIDE, OUTSIDE);
        due("NOT", ShadowRowDesk.NOT, NOT);
        due("FULL", ShadowRowDesk.FULL, FULL);
        due("WRONG", ShadowRowDesk.WRONG, WRONG);
    }

    // ---- promise 2

    private static void write() {
        ShadowRowDesk desk = new ShadowRowDesk();
        due("write(0)", desk.write(0), 1);
        due("write(255)", desk.write(255), 2);
        int[] noLetters = {-1, 256, Integer.MIN_VALUE, Integer.MAX_VALUE};
        dueFor("write", noLetters, OUTSIDE, desk::write);
        for (int i = 3; i <= 120; i++) {
            due("write " + i, desk.write('t'), i);
        }
        due("write 121", desk.write('t'), FULL);
        dueFor("write when full", noLetters, OUTSIDE, desk::write);
        due("count(2) when full", desk.count(2), 120);
        due("erase()", desk.erase(), 120);
        due("write after erase", desk.write('t'), 1);
    }

    // ---- promise 3

    private static void erase() {
        ShadowRowDesk desk = new ShadowRowDesk();
        due("erase() of nothing", desk.erase(), 0);
        letters(desk, FALLING);
        due("erase()", desk.erase(), FALLING.length());
        due("erase() again", desk.erase(), 0);
        due("count(2)", desk.count(2), 0);
        letters(desk, "2;t");
        due("fault() of what is new alone", desk.fault(), NONE);
        desk.erase();
        letters(desk, "1;t^55");
        due("fault() of a long N", desk.fault(), 4);
        desk.erase();
        letters(desk, "1;t^1");
        due("fault() of a short N where a long one was", desk.fault(), NONE);
    }

    // ---- promise 4

    private static void dueFault(String text, int want) {
        ShadowRowDesk desk = new ShadowRowDesk();
        letters(desk, text);
        due("fault() of '" + text + "'", desk.fault(), want);
        due("count(2) behind it", desk.count(2), text.length());
        due("fault() again", desk.fault(), want);
        if (want != NONE) {
            due("read(0) of it", desk.read(0), NOT);
            due("read(4) of it", desk.read(4), UNKNOWN);
        }
    }

    private static void fault() {
        dueFault("", 0);
        dueFault("   ", 3);
        dueFault("1", 1);
        dueFault("1 ", 2);
        dueFault("1;", 2);
        dueFault("1; ", 3);
        dueFault(";t", 0);
        dueFault(" ;t", 1);
        dueFault("1;t", NONE);
        dueFault(" 1 ; t ", NONE);
        dueFault("1;t;", 3);
        dueFault("1;t;t", 3);
        dueFault("1;t)", 3);
        dueFault("1;t t", 4);
        dueFault("1;2t", 3);
        dueFault("1;t2", 3);
        dueFault("1 2;t", 2);
        dueFault("12;t", NONE);
        dueFault("9972;t", NONE);
        dueFault("9973;t", 0);
        dueFault("9999;t", 0);
        dueFault("0000;t", NONE);
        dueFault("0001;t", NONE);
        dueFault("00001;t", 0);
        dueFault("99999999999999999999;t", 0);
        dueFault("1;t+ 9973*", 5);
        dueFault("1;t^0", NONE);
        dueFault("1;t^9", NONE);
        dueFault("1;t ^ 9 ", NONE);
        dueFault("1;t^10", 4);
        dueFault("1;t^ 09", 5);
        dueFault("1;t^1 0", 6);
        dueFault("1;t^t", 4);
        dueFault("1;t^(2)", 4);
        dueFault("1;t^-1", 4);
        dueFault("1;t^", 4);
        dueFault("1;t^2^2", 5);
        dueFault("1;^2", 2);
        dueFault("1;(t^2)^2", NONE);
        dueFault("1;2^3", NONE);
        dueFault("1;t+", 4);
        dueFault("1;t+;", 4);
        dueFault("1;+t", 2);
        dueFault("-1;t", 0);
        dueFault("1;t--t", 4);
        dueFault("1;t*/t", 4);
        dueFault("1;t*", 4);
        dueFault("1/0;t", NONE);
        dueFault("x;t", 0);
        dueFault("T;t", 0);
        dueFault("1;t" + (char) 9, 3);
        dueFault("1" + (char) 0 + ";t", 1);
        dueFault("1;t" + (char) 255, 3);
        dueFault("1;t" + (char) 160, 3);
        dueFault("1;t+" + (char) ('0' - 1), 4);
        dueFault("1;t+" + (char) ('9' + 1), 4);
        dueFault("1,t", 1);
        dueFault("t;1", NONE);
    }

    private static void faultInBrackets() {
        dueFault("1;()", 3);
        dueFault("1;(t", 4);
        dueFault("1;(t;t)", 4);
        dueFault("(1;t)", 2);
        dueFault("1;(t))", 5);
        dueFault("1;(t)(t)", 5);
        dueFault("1;2(t)", 3);
        dueFault("1;t(t)", 3);
        dueFault("1;(t)2", 5);
        dueFault("e;t", 1);
        dueFault("e", 1);
        dueFault("1;e t", 4);
        dueFault("1;e2", 3);
        dueFault("1;ee(t)", 3);
        dueFault("1;e()", 4);
        dueFault("1;e (t)", NONE);
        dueFault("e(t);q(t)+l(t)-i(t)", NONE);
        dueFault("1;e(t)^2", NONE);
        dueFault("1;e^2(t)", 3);
        dueFault("1;((((((t))))))", NONE);
        dueFault("1;(((((((t)))))))", 8);
        dueFault("1;e(q(l(i(e((t))))))", NONE);
        dueFault("1;e(q(l(i(e(q(l(t)))))))", 15);
        dueFault("1;e(q(l(i(e(q(l", 15);
        dueFault("((((((1))))));((((((t))))))", NONE);
        dueFault("1;((((((t))))))+((((((t))))))", NONE);
        dueFault("1;(((((t+(t))-(t))*(t))))", NONE);
        dueFault("1;((((((t)))))", 14);
        dueFault("1;(t+(t)*(2-t)/(1+t)^3)", NONE);
    }

    // ---- promise 5

    private static void read() {
        ShadowRowDesk desk = new ShadowRowDesk();
        due("read(3)", readText(desk, 3, " 2 ; 7*t + t^2 "), 7);
        due("count(2)", desk.count(2), 0);
        dueSeries(desk, 3, 0, 2);
        dueSeries(desk, 3, 1, 0, 7, 1);
        dueSeries(desk, 0, 1, 0, 1);
        due("read(3) of nothing", desk.read(3), NOT);
        dueSeries(desk, 3, 1, 0, 7, 1);
        due("read(0)", readText(desk, 0, "1;0-t"), 9972);
        due("count(1)", desk.count(1), 0);
        String longest = "1;" + "t+".repeat(58) + " t";
        due("the longest TEXT", longest.length(), 120);
        due("read(1) of it", readText(desk, 1, longest), 59);
        String digitLast = "1;" + "t+".repeat(57) + " t^1";
        due("the longest TEXT with a digit at its end", digitLast.length(), 120);
        due("read(1) of it too", readText(desk, 1, digitLast), 58);
        due("the longest TEXT that ends too soon", readText(desk, 1, "1;" + "t+".repeat(59)), NOT);
        due("its fault()", desk.fault(), 120);
    }

    private static void dueReckoned(String told, long... numbers) {
        ShadowRowDesk desk = new ShadowRowDesk();
        boolean unit = numbers.length > 0 && left(numbers[0]) != 0;
        int f1 = readText(desk, 0, unit ? told + ";t" : "1;" + told);
        due("read(0) of " + told, f1, unit ? 1 : left(numbers[1]));
        dueSeries(desk, 0, unit ? 0 : 1, numbers);
    }

    private static void readReckons() {
        dueReckoned("8-2-2", 4);
        dueReckoned("8/2/2", 2);
        dueReckoned("8/2*3", 12);
        dueReckoned("2+3*4", 14);
        dueReckoned("2*3^2", 18);
        dueReckoned("(2*3)^2", 36);
        dueReckoned("(2+3)*4", 20);
        dueReckoned("9972+2", 1);
        dueReckoned("1-2", -1);
        dueReckoned("9972*9972", 1);
        dueReckoned("1/3", by(1, 3));
        dueReckoned("t^0", 1);
        dueReckoned("0^0", 1);
        dueReckoned("1/t^0", 1);
        dueReckoned("7^9", 40353607);
        dueReckoned("t^8+1", 1, 0, 0, 0, 0, 0, 0, 0, 1);
        dueReckoned("t^9+1", 1);
        dueReckoned("t+t^5*t^4", 0, 1);
        dueReckoned("(1+t)^3", 1, 3, 3, 1);
        dueReckoned("t*(1+t)^9", 0, 1, 9, 36, 84, 126, 126, 84, 36);
        dueReckoned("1/(1-t)", 1, 1, 1, 1, 1, 1, 1, 1, 1);
        dueReckoned("t/(1-t)/(1-t)", 0, 1, 2, 3, 4, 5, 6, 7, 8);
        dueReckoned("(1+t)/(2-2*t)", by(1, 2), 1, 1, 1, 1, 1, 1, 1, 1);
        dueReckoned("0+1*(".repeat(6) + "0+1*t^1" + ")".repeat(6), 0, 1);
        dueReckoned("3-2*(".repeat(6) + "3-2*t" + ")^1".repeat(6), 129, -128);
        dueReckoned("e(0)", 1);
        dueReckoned("q(0)", 1);
        dueReckoned("1+l(0)", 1);
        dueReckoned("e(l(t))", 1, 1);
        dueReckoned("l(e(t)-1)", 0, 1);
        dueReckoned("q(t)*t-e(t)+t+1", 0, 1);
        dueReckoned("i(e(t)-1)-l(t)+t", 0, 1);
        dueReckoned("i(t)", 0, 1);
        dueReckoned("i(5*t)", 0, by(1, 5));
        dueReckoned("i(t-t^2)", 0, 1, 1, 2, 5, 14, 42, 132, 429);
        dueReckoned("i(i(t+t^3-3*t^7))", 0, 1, 0, 1, 0, 0, 0, -3, 0);
        dueReckoned("l(t)", 0, 1, by(-1, 2), by(1, 3), by(-1, 4), by(1, 5), by(-1, 6), by(1, 7), by(-1, 8));
        dueReckoned("e(t)", 1, 1, by(1, 2), by(1, 6), by(1, 24), by(1, 120), by(1, 720), by(1, 5040), by(1, 40320));
        dueReckoned("q(t)", 1, by(1, 2), by(1, 6), by(1, 24), by(1, 120), by(1, 720), by(1, 5040), by(1, 40320),
                by(1, 362880));
        dueReckoned("e(2*t^3)", 1, 0, 0, 2, 0, 0, 2);
        dueReckoned("q(6*t^4)", 1, 0, 0, 0, 3, 0, 0, 0, 6);
        dueReckoned("t+l(2*t^4)", 0, 1, 0, 0, 2, 0, 0, 0, -2);
    }

    private static void readRefuses() {
        String[] wrongTexts = {"0;t", "t;t", "1;1", "1;t^2", "1;0", "1;0*t", "1;1+t", "1/0;t", "1/t;t", "1;t/t",
            "1;t/(t+t^2)", "1;e(1+t)", "1;e(1)", "1;t*q(1)", "1;l(1)", "1;t+l(2+t)", "1;i(1)", "1;i(0)", "1;i(1+t)",
            "1;i(t^2)", "e(1)*0;t", "1+0*i(0);t", "1;t+0/0", "9972+1;t", "1;t-t", "1;t*9972+t"};
        for (String text : wrongTexts) {
            ShadowRowDesk desk = deskWith(FALLING, HERMITE);
            letters(desk, text);
            String before = state(desk);
            due("fault() of " + text, desk.fault(), NONE);
            due("read(1) of " + text, desk.read(1), WRONG);
            dueFor("read of " + text, NO_ROWS, UNKNOWN, desk::read);
            dueSame("read of " + text, desk, before);
        }
        ShadowRowDesk desk = new ShadowRowDesk();
        due("a FAULT behind what is WRONG", readText(desk, 0, "1/0;"), NOT);
        due("its TEXT is left", desk.count(2), 4);
        due("what is WRONG, and a good ROW behind it", readText(desk, 0, "t"), WRONG);
    }

    // ---- promise 6

    private static void compose() {
        ShadowRowDesk desk = deskWith("1+t;t+t^2", "1-t;2*t+t^3");
        due("compose(2, 0, 1)", desk.compose(2, 0, 1), 2);
        dueSeries(desk, 2, 0, 1, 1, -2, 1, -1);
        dueSeries(desk, 2, 1, 0, 2, 4, 1, 4, 0, 1);
        due("compose(3, 1, 0)", desk.compose(3, 1, 0), 2);
        dueSeries(desk, 3, 0, 1, 0, -2, -1);
        dueSeries(desk, 3, 1, 0, 2, 2, 1, 3, 3, 1);
        due("compose(0, 0, 1)", desk.compose(0, 0, 1), 2);
        due("it as they were", desk.differ(0, 2), NONE);
        readText(desk, 0, "1+t;t+t^2");
        due("compose(1, 0, 1)", desk.compose(1, 0, 1), 2);
        due("it as they were too", desk.differ(1, 2), NONE);
        due("compose(0, 0, 0)", desk.compose(0, 0, 0), 1);
        dueSeries(desk, 0, 1, 0, 1, 2, 2, 1);
        dueSeries(desk, 0, 0, 1, 2, 2, 1);
        String before = state(desk);
        dueFor("compose row", NO_ROWS, UNKNOWN, row -> desk.compose(row, 0, 1));
        dueFor("compose one", NO_ROWS, UNKNOWN, row -> desk.compose(0, row, 1));
        dueFor("compose other", NO_ROWS, UNKNOWN, row -> desk.compose(0, 1, row));
        dueSame("compose", desk, before);
    }

    // ---- promise 7

    private static void invert() {
        ShadowRowDesk desk = deskWith(FALLING, LAGUERRE, "3+t;2*t-t^2");
        due("invert(3, 0)", desk.invert(3, 0), 1);
        duePolynomial(desk, 3, 4, 0, 1, 7, 6, 1);
        dueSeries(desk, 3, 0, 1);
        dueSeries(desk, 3, 1, 0, 1, by(-1, 2), by(1, 3), by(-1, 4), by(1, 5), by(-1, 6), by(1, 7), by(-1, 8));
        due("invert(3, 1)", desk.invert(3, 1), 9972);
        due("Laguerre turned back", desk.differ(3, 1), NONE);
        due("invert(3, 2)", desk.invert(3, 2), by(1, 2));
        desk.compose(1, 3, 2);
        dueSeries(desk, 1, 0, 1);
        dueSeries(desk, 1, 1, 0, 1);
        desk.compose(1, 2, 3);
        dueSeries(desk, 1, 0, 1);
        dueSeries(desk, 1, 1, 0, 1);
        due("invert(2, 2)", desk.invert(2, 2), by(1, 2));
        due("it as it was", desk.differ(2, 3), NONE);
        String before = state(desk);
        dueFor("invert row", NO_ROWS, UNKNOWN, row -> desk.invert(row, 0));
        dueFor("invert of", NO_ROWS, UNKNOWN, row -> desk.invert(0, row));
        dueSame("invert", desk, before);
    }

    // ---- promise 8

    private static void part() {
        ShadowRowDesk desk = deskWith("2+t;3*t+t^2");
        due("part(1, 0, 0)", desk.part(1, 0, 0), 3);
        dueSeries(desk, 1, 0, 1);
        dueSeries(desk, 1, 1, 0, 3, 1);
        due("part(2, 0, 1)", desk.part(2, 0, 1), 1);
        dueSeries(desk, 2, 0, 2, 1);
        dueSeries(desk, 2, 1, 0, 1);
        due("part(0, 0, 1)", desk.part(0, 0, 1), 1);
        due("of itself", desk.differ(0, 2), NONE);
        String before = state(desk);
        int[] noParts = {-1, 2, Integer.MIN_VALUE, Integer.MAX_VALUE};
        dueFor("part", noParts, OUTSIDE, part -> desk.part(0, 1, part));
        dueFor("part row", NO_ROWS, UNKNOWN, row -> desk.part(row, 1, 2));
        dueFor("part of", NO_ROWS, UNKNOWN, row -> desk.part(1, row, 0));
        dueSame("part", desk, before);
    }

    // ---- promise 9

    private static void move() {
        ShadowRowDesk desk = deskWith(HERMITE, LAGUERRE);
        due("move(2, 0, 5)", desk.move(2, 0, 5), 1);
        due("move(3, 1, 9972)", desk.move(3, 1, 9972), 9972);
        for (int n = 0; n < 9; n++) {
            due("moved by 5", desk.value(2, n, 7), desk.value(0, n, 12));
            due("moved by less 1", desk.value(3, n, 7), desk.value(1, n, 6));
        }
        dueSeries(desk, 3, 1, 0, -1, -1, -1, -1, -1, -1, -1, -1);
        desk.part(2, 2, 0);
        desk.move(2, 2, 1);
        dueSeries(desk, 2, 0, 1, -1, by(1, 2), by(-1, 6), by(1, 24), by(-1, 120), by(1, 720), by(-1, 5040),
                by(1, 40320));
        due("move(3, 0, 0)", desk.move(3, 0, 0), 1);
        due("moved by 0", desk.differ(3, 0), NONE);
        due("move(0, 0, 3)", desk.move(0, 0, 3), 1);
        due("of itself", desk.value(0, 4, 0), desk.value(3, 4, 3));
        String before = state(desk);
        dueFor("move a", NO_NUMBERS, OUTSIDE, a -> desk.move(0, 1, a));
        dueFor("move row", NO_ROWS, UNKNOWN, row -> desk.move(row, 1, -1));
        dueFor("move of", NO_ROWS, UNKNOWN, row -> desk.move(1, row, PRIME));
        dueSame("move", desk, before);
    }

    // ---- promise 10

    private static void stretch() {
        ShadowRowDesk desk = deskWith("5+3*t;4*t+8*t^3", LAGUERRE);
        due("stretch(2, 0, 2)", desk.stretch(2, 0, 2), 2);
        dueSeries(desk, 2, 0, 5, by(3, 2));
        dueSeries(desk, 2, 1, 0, 2, 0, 1);
        due("stretch(3, 1, 9972)", desk.stretch(3, 1, 9972), 1);
        for (int n = 0; n < 9; n++) {
            due("stretched by 2", desk.value(2, n, 7), desk.value(0, n, 14));
            due("stretched by less 1", desk.value(3, n, 7), desk.value(1, n, PRIME - 7));
        }
        due("stretch(3, 1, 1)", desk.stretch(3, 1, 1), 9972);
        due("stretched by 1", desk.differ(3, 1), NONE);
        due("stretch(0, 0, 2)", desk.stretch(0, 0, 2), 2);
        due("of itself", desk.differ(0, 2), NONE);
        String before = state(desk);
        dueFor("stretch c", NO_NUMBERS, OUTSIDE, c -> desk.stretch(0, 1, c));
        due("stretch(0, 1, 0)", desk.stretch(0, 1, 0), OUTSIDE);
        dueFor("stretch row", NO_ROWS, UNKNOWN, row -> desk.stretch(row, 1, 0));
        dueFor("stretch of", NO_ROWS, UNKNOWN, row -> desk.stretch(1, row, PRIME));
        dueSame("stretch", desk, before);
    }

    // ---- promise 11

    private static void series() {
        ShadowRowDesk desk = deskWith("2-2*t;t-t^2");
        dueSeries(desk, 0, 0, 2, -2);
        dueSeries(desk, 0, 1, 0, 1, -1);
        int half = by(1, 2);
        dueSeries(desk, 0, 2, half, half, half, half, half, half, half, half, half);
        dueSeries(desk, 0, 3, 0, 1, 1, 2, 5, 14, 42, 132, 429);
        int[] noSeries = {-1, 4, Integer.MIN_VALUE, Integer.MAX_VALUE};
        dueFor("series what", noSeries, OUTSIDE, what -> desk.series(0, what, 0));
        dueFor("series k", NO_POWERS, OUTSIDE, k -> desk.series(0, 3, k));
        dueFor("series row", NO_ROWS, UNKNOWN, row -> desk.series(row, 4, 9));
    }

    // ---- promise 12

    private static void polynomial() {
        ShadowRowDesk desk = deskWith(HERMITE, LAGUERRE, FALLING, RISING);
        duePolynomial(desk, 0, 0, 1);
        duePolynomial(desk, 0, 5, 0, 15, 0, -10, 0, 1);
        duePolynomial(desk, 0, 8, 105, 0, -420, 0, 210, 0, -28, 0, 1);
        duePolynomial(desk, 1, 1, -1, -1);
        duePolynomial(desk, 1, 3, 0, 0, 3, -1);
        duePolynomial(desk, 2, 4, 0, -6, 11, -6, 1);
        duePolynomial(desk, 2, 8, 0, -5040, 13068, -13132, 6769, -1960, 322, -28, 1);
        duePolynomial(desk, 3, 4, 0, 6, 11, 6, 1);
        readText(desk, 1, "1/(1-t);t/(t-1)");
        duePolynomial(desk, 1, 2, 2, -4, 1);
        duePolynomial(desk, 1, 3, 6, -18, 9, -1);
        readText(desk, 2, BERNOULLI);
        duePolynomial(desk, 2, 1, by(-1, 2), 1);
        duePolynomial(desk, 2, 4, by(-1, 30), 0, 1, -2, 1);
        readText(desk, 3, ABEL);
        duePolynomial(desk, 3, 3, 0, 9, -6, 1);
        readText(desk, 0, "4;5*t");
        duePolynomial(desk, 0, 0, by(1, 4));
        duePolynomial(desk, 0, 2, 0, 0, by(1, 100));
        dueFor("polynomial n", NO_POWERS, OUTSIDE, n -> desk.polynomial(0, n, 0));
        dueFor("polynomial k", NO_POWERS, OUTSIDE, k -> desk.polynomial(0, 8, k));
        dueFor("polynomial row", NO_ROWS, UNKNOWN, row -> desk.polynomial(row, 9, -1));
    }

    // ---- promise 13

    private static void value() {
        ShadowRowDesk desk = deskWith(FALLING, RISING);
        due("7 falling, 4 of it", desk.value(0, 4, 7), 840);
        due("3 falling, 4 of it", desk.value(0, 4, 3), 0);
        due("less 1 falling, 3 of it", desk.value(0, 3, 9972), left(-6));
        due("3 rising, 5 of it", desk.value(1, 5, 3), 2520);
        due("s0", desk.value(1, 0, 0), 1);
        due("x^8 at 9972", desk.value(2, 8, 9972), 1);
        due("x^8 at 10", desk.value(2, 8, 10), left(100000000));
        dueFor("value x", NO_NUMBERS, OUTSIDE, x -> desk.value(0, 8, x));
        dueFor("value n", NO_POWERS, OUTSIDE, n -> desk.value(0, n, 0));
        dueFor("value row", NO_ROWS, UNKNOWN, row -> desk.value(row, 9, PRIME));
    }

    // ---- promise 14

    private static void connect() {
        ShadowRowDesk desk = deskWith("1;t", FALLING, RISING, HERMITE);
        int[] secondKind = {0, 1, 31, 90, 65, 15, 1, 0, 0};
        int[] firstKind = {0, -120, 274, -225, 85, -15, 1, 0, 0};
        int[] lah = {0, 24, 36, 12, 1, 0, 0, 0, 0};
        int[] byHermite = {3, 0, 6, 0, 1, 0, 0, 0, 0};
        for (int k = 0; k < 9; k++) {
            due("powers by falling, " + k, desk.connect(0, 1, 6, k), secondKind[k]);
            due("falling by powers, " + k, desk.connect(1, 0, 6, k), left(firstKind[k]));
            due("rising by falling, " + k, desk.connect(2, 1, 4, k), lah[k]);
            due("powers by Hermite's, " + k, desk.connect(0, 3, 4, k), byHermite[k]);
            due("one by itself, " + k, desk.connect(3, 3, 8, k), k == 8 ? 1 : 0);
        }
        readText(desk, 0, "5;2*t");
        due("x by what begins with less", desk.connect(1, 0, 1, 1), 10);
        String before = state(desk);
        dueFor("connect n", NO_POWERS, OUTSIDE, n -> desk.connect(0, 1, n, 0));
        dueFor("connect k", NO_POWERS, OUTSIDE, k -> desk.connect(0, 1, 8, k));
        dueFor("connect one", NO_ROWS, UNKNOWN, row -> desk.connect(row, 1, 9, -1));
        dueFor("connect other", NO_ROWS, UNKNOWN, row -> desk.connect(1, row, 9, -1));
        dueSame("connect", desk, before);
    }

    // ---- promise 15

    private static void differ() {
        ShadowRowDesk desk = deskWith("1;t", FALLING, HERMITE, "2;t");
        due("differ(0, 1)", desk.differ(0, 1), 2);
        due("differ(1, 0)", desk.differ(1, 0), 2);
        due("differ(0, 2)", desk.differ(0, 2), 2);
        due("differ(0, 3)", desk.differ(0, 3), 0);
        due("differ(2, 2)", desk.differ(2, 2), NONE);
        readText(desk, 1, "1;t+t^8");
        due("unlike in s8 alone", desk.differ(0, 1), 8);
        readText(desk, 1, "1+t^8;t");
        due("unlike in s8 alone, in g", desk.differ(0, 1), 8);
        readText(desk, 1, "1-7*t;t");
        due("unlike in s1", desk.differ(0, 1), 1);
        dueFor("differ one", NO_ROWS, UNKNOWN, row -> desk.differ(row, 0));
        dueFor("differ other", NO_ROWS, UNKNOWN, row -> desk.differ(0, row));
    }

    // ---- promise 16

    private static void take() {
        ShadowRowDesk desk = deskWith(LAGUERRE, "1;2*t");
        due("take(0, 3)", desk.take(0, 3), 9972);
        dueHand("take(0, 3)", desk, 0, 0, 3, -1);
        due("take(1, 2)", desk.take(1, 2), by(1, 4));
        dueHand("take(1, 2)", desk, 0, 0, by(1, 4));
        due("take(2, 8)", desk.take(2, 8), 1);
        due("take(2, 0)", desk.take(2, 0), 1);
        due("count(1)", desk.count(1), 4);
        desk.put(0, 7);
        duePolynomial(desk, 2, 0, 1);
        String before = state(desk);
        dueFor("take n", NO_POWERS, OUTSIDE, n -> desk.take(0, n));
        dueFor("take row", NO_ROWS, UNKNOWN, row -> desk.take(row, 9));
        dueSame("take", desk, before);
    }

    // ---- promise 17

    private static void put() {
        ShadowRowDesk desk = new ShadowRowDesk();
        due("put(8, 9972)", desk.put(8, 9972), 0);
        due("put(8, 0)", desk.put(8, 0), 9972);
        due("put(0, 4)", desk.put(0, 4), 0);
        due("put(0, 4) again", desk.put(0, 4), 4);
        dueHand("put", desk, 4);
        due("count(1)", desk.count(1), 4);
        String before = state(desk);
        dueFor("put k", NO_POWERS, OUTSIDE, k -> desk.put(k, 0));
        dueFor("put a", NO_NUMBERS, OUTSIDE, a -> desk.put(0, a));
        dueSame("put", desk, before);
    }

    // ---- promise 18

    private static void plus() {
        ShadowRowDesk desk = deskWith(HERMITE);
        putAll(desk, 5, 0, 1);
        due("plus(0, 4, 2)", desk.plus(0, 4, 2), 11);
        dueHand("plus(0, 4, 2)", desk, 11, 0, -11, 0, 2);
        due("plus(0, 4, 9972)", desk.plus(0, 4, 9972), 8);
        dueHand("plus(0, 4, 9972)", desk, 8, 0, -5, 0, 1);
        int undoable = desk.count(1);
        due("plus(0, 8, 0)", desk.plus(0, 8, 0), 8);
        due("count(1)", desk.count(1), Math.min(8, undoable + 1));
        dueHand("plus(0, 8, 0)", desk, 8, 0, -5, 0, 1);
        String before = state(desk);
        dueFor("plus n", NO_POWERS, OUTSIDE, n -> desk.plus(0, n, 1));
        dueFor("plus c", NO_NUMBERS, OUTSIDE, c -> desk.plus(0, 1, c));
        dueFor("plus row", NO_ROWS, UNKNOWN, row -> desk.plus(row, 9, PRIME));
        dueSame("plus", desk, before);
    }

    // ---- promise 19

    private static void act() {
        ShadowRowDesk desk = deskWith(FALLING, "2+t;3*t+t^2", "e(t);t");
        putAll(desk, 1, 1, 0, 1);
        due("act by a difference", desk.act(0, 1), 2);
        dueHand("act by a difference", desk, 2, 3, 3);
        putAll(desk, 7, 0, 0, 2);
        due("act(1, 0)", desk.act(1, 0), 14);
        dueHand("act(1, 0)", desk, 14, 0, 6, 4);
        due("act(1, 2)", desk.act(1, 2), 7);
        dueHand("act(1, 2)", desk, 7, 0, 0, 2);
        due("act(1, 1)", desk.act(1, 1), 0);
        dueHand("act(1, 1)", desk, 0, 12, 18);
        putAll(desk, 0, 0, 0, 0, 0, 0, 0, 0, 1);
        due("act(2, 0), a shift by 1", desk.act(2, 0), 1);
        dueHand("act(2, 0)", desk, 1, 8, 28, 56, 70, 56, 28, 8, 1);
        due("act(2, 2), a shift back", desk.act(2, 2), 0);
        for (int n = 1; n < 9; n++) {
            desk.take(1, n);
            due("sn taken by g", desk.act(1, 0), 0);
            desk.take(1, n);
            desk.act(1, 1);
            due("sn taken by f", desk.expand(1, n - 1), n);
        }
        String before = state(desk);
        int[] noSeries = {-1, 3, Integer.MIN_VALUE, Integer.MAX_VALUE};
        dueFor("act what", noSeries, OUTSIDE, what -> desk.act(0, what));
        dueFor("act row", NO_ROWS, UNKNOWN, row -> desk.act(row, 3));
        dueSame("act", desk, before);
    }

    // ---- promise 20

    private static void raise() {
        ShadowRowDesk desk = deskWith("1;t", FALLING, "7-t;3*t+t^2-t^8");
        putAll(desk, 5, 0, 6);
        due("raise(0)", desk.raise(0), 7);
        dueHand("raise(0)", desk, 0, 5, 0, 2);
        putAll(desk, 0, 0, 6);
        due("raise(1), sums of squares", desk.raise(1), 0);
        dueHand("raise(1)", desk, 0, 1, -3, 2);
        putAll(desk, 1, 2, 3, 4, 5, 6, 7, 8);
        desk.raise(2);
        due("it at 0", desk.at(0), 0);
        due("count(0)", desk.count(0), 8);
        String before = state(desk);
        due("raise with x^8", desk.raise(0), NOT);
        dueFor("raise row", NO_ROWS, UNKNOWN, desk::raise);
        dueSame("raise", desk, before);
        due("act(2, 1)", desk.act(2, 1), 1);
        dueHand("raised and taken down", desk, 1, 2, 3, 4, 5, 6, 7, 8);
        putAll(desk);
        due("raise(1) of 0", desk.raise(1), 0);
        due("count(0) of 0", desk.count(0), NONE);
    }

    // ---- promise 21

    private static void shift() {
        ShadowRowDesk desk = new ShadowRowDesk();
        putAll(desk, 7, -1, 3);
        due("shift(9972)", desk.shift(9972), 11);
        dueHand("shift(9972)", desk, 11, -7, 3);
        due("shift(0)", desk.shift(0), 11);
        dueHand("shift(0)", desk, 11, -7, 3);
        putAll(desk, 0, 0, 0, 0, 0, 0, 0, 0, 1);
        due("shift(2)", desk.shift(2), 256);
        dueHand("shift(2)", desk, 256, 1024, 1792, 1792, 1120, 448, 112, 16, 1);
        String before = state(desk);
        dueFor("shift a", NO_NUMBERS, OUTSIDE, desk::shift);
        dueSame("shift", desk, before);
    }

    // ---- promise 22

    private static void times() {
        ShadowRowDesk desk = new ShadowRowDesk();
        due("times() of 0", desk.times(), 0);
        due("count(1)", desk.count(1), 1);
        putAll(desk, 3, 0, 2, 0, 0, 0, 0, 9972);
        due("times()", desk.times(), 4);
        dueHand("times()", desk, 0, 3, 0, 2, 0, 0, 0, 0, 9972);
        String before = state(desk);
        due("times() with x^8", desk.times(), NOT);
        dueSame("times", desk, before);
    }

    // ---- promise 23

    private static void swap() {
        ShadowRowDesk desk = deskWith(FALLING, "1;t", HERMITE);
        putAll(desk, 0, 0, 0, 0, 1);
        due("swap(0, 1), the numbers of the second kind", desk.swap(0, 1), 0);
        dueHand("swap(0, 1)", desk, 0, 1, 7, 6, 1);
        desk.swap(1, 0);
        dueHand("swap(1, 0)", desk, 0, 0, 0, 0, 1);
        due("swap(1, 2)", desk.swap(1, 2), 3);
        dueHand("swap(1, 2)", desk, 3, 0, -6, 0, 1);
        due("swap(2, 2)", desk.swap(2, 2), 3);
        dueHand("swap(2, 2)", desk, 3, 0, -6, 0, 1);
        putAll(desk, 5, 0, 1);
        due("swap(1, 0) of what has s0", desk.swap(1, 0), 5);
        dueHand("swap(1, 0) of what has s0", desk, 5, -1, 1);
        String before = state(desk);
        dueFor("swap one", NO_ROWS, UNKNOWN, row -> desk.swap(row, 0));
        dueFor("swap other", NO_ROWS, UNKNOWN, row -> desk.swap(0, row));
        dueSame("swap", desk, before);
    }

    // ---- promise 24

    private static void climb() {
        ShadowRowDesk desk = deskWith(HERMITE, "1;t", LAGUERRE);
        putAll(desk, 2, 0, 1);
        due("climb(0)", desk.climb(0), 0);
        dueHand("climb(0): x^2 is s2 and s0", desk, 0, 0, 0, 1);
        putAll(desk, 4, 3);
        due("climb(0) again", desk.climb(0), -3 + PRIME);
        dueHand("climb(0) again", desk, -3, 4, 3);
        putAll(desk, 4, 3);
        due("climb(1)", desk.climb(1), 0);
        dueHand("climb(1)", desk, 0, 4, 3);
        desk.take(2, 7);
        desk.climb(2);
        due("from s7 to s8", desk.expand(2, 8), 1);
        due("and s7 is gone", desk.expand(2, 7), 0);
        String before = state(desk);
        due("climb with x^8", desk.climb(2), NOT);
        dueFor("climb row", NO_ROWS, UNKNOWN, desk::climb);
        dueSame("climb", desk, before);
    }

    // ---- promise 25

    private static void weigh() {
        ShadowRowDesk desk = deskWith("1;t", HERMITE);
        putAll(desk, 9, 8, 7, 6, 5, 4, 3, 2, 1);
        due("weigh(0)", desk.weigh(0), 0);
        dueHand("weigh(0)", desk, 0, 8, 14, 18, 20, 20, 18, 14, 8);
        putAll(desk, 0, 0, 0, 0, 1);
        due("weigh(1): x^4 is s4, 6 s2, 3 s0", desk.weigh(1), 0);
        dueHand("weigh(1)", desk, 0, 0, -12, 0, 4);
        String before = state(desk);
        dueFor("weigh row", NO_ROWS, UNKNOWN, desk::weigh);
        dueSame("weigh", desk, before);
    }

    // ---- promise 26

    private static void undo() {
        ShadowRowDesk desk = deskWith(FALLING);
        due("undo() of nothing", desk.undo(), NOT);
        desk.put(3, 5);
        desk.put(3, 5);
        due("undo() of what changed nothing", desk.undo(), 1);
        due("hand(3)", desk.hand(3), 5);
        due("undo()", desk.undo(), 0);
        due("hand(3) then", desk.hand(3), 0);
        due("undo() of none", desk.undo(), NOT);
        for (int i = 1; i <= 11; i++) {
            desk.put(0, i);
            due("count(1)", desk.count(1), Math.min(i, 8));
        }
        for (int i = 1; i <= 8; i++) {
            due("undo() " + i, desk.undo(), 8 - i);
            due("hand(0) then", desk.hand(0), 11 - i);
        }
        due("a ninth", desk.undo(), NOT);
        due("hand(0) at last", desk.hand(0), 3);
        eachIsUndone();
        othersAreNot();
    }

    private static void eachIsUndone() {
        ShadowRowDesk desk = deskWith(FALLING, HERMITE);
        putAll(desk, 6, 5, 4, 3);
        for (int i = 0; i < 8; i++) {
            desk.undo();
        }
        putAll(desk, 6, 5, 4, 3);
        desk.undo();
        for (int which = 0; which < 10; which++) {
            change(desk, which);
            due("count(1) after change " + which, desk.count(1), 8);
            due("undo() of change " + which, desk.undo(), 7);
            dueHand("undo() of change " + which, desk, 6, 5, 4, 3);
        }
    }

    private static void change(ShadowRowDesk desk, int which) {
        switch (which) {
            case 0 -> desk.take(1, 5);
            case 1 -> desk.put(2, 9);
            case 2 -> desk.plus(0, 3, 4);
            case 3 -> desk.act(0, 1);
            case 4 -> desk.raise(0);
            case 5 -> desk.shift(3);
            case 6 -> desk.times();
            case 7 -> desk.swap(0, 1);
            case 8 -> desk.climb(1);
            default -> desk.weigh(0);
        }
    }

    private static void othersAreNot() {
        ShadowRowDesk desk = deskWith(FALLING);
        desk.put(2, 1);
        letters(desk, HERMITE);
        desk.read(1);
        desk.compose(2, 0, 0);
        desk.invert(2, 0);
        desk.part(2, 0, 1);
        desk.move(2, 0, 1);
        desk.stretch(2, 0, 2);
        desk.keep(0);
        desk.put(9, 9);
        desk.take(0, 9);
        desk.raise(4);
        due("count(1)", desk.count(1), 1);
        due("undo()", desk.undo(), 0);
        dueHand("undo()", desk);
        due("rows are as they were", desk.series(2, 1, 1), by(1, 2));
    }

    // ---- promise 27

    private static void hand() {
        ShadowRowDesk desk = new ShadowRowDesk();
        putAll(desk, 1, 2, 3, 4, 5, 6, 7, 8, 9);
        dueHand("hand", desk, 1, 2, 3, 4, 5, 6, 7, 8, 9);
        dueFor("hand", NO_POWERS, OUTSIDE, desk::hand);
    }

    // ---- promise 28

    private static void at() {
        ShadowRowDesk desk = new ShadowRowDesk();
        due("at(5) of 0", desk.at(5), 0);
        putAll(desk, 1, 2, 3, 0, 0, 0, 0, 0, 1);
        due("at(0)", desk.at(0), 1);
        due("at(1)", desk.at(1), 7);
        due("at(10)", desk.at(10), left(100000321));
        due("at(9972)", desk.at(9972), 3);
        dueFor("at", NO_NUMBERS, OUTSIDE, desk::at);
    }

    // ---- promise 29

    private static void expand() {
        ShadowRowDesk desk = deskWith(FALLING, LAGUERRE);
        putAll(desk, 2, 0, 0, 0, 1);
        int[] shares = {2, 1, 7, 6, 1, 0, 0, 0, 0};
        for (int k = 0; k < 9; k++) {
            due("expand(0, " + k + ")", desk.expand(0, k), shares[k]);
        }
        putAll(desk, 9, 8, 7, 6, 5, 4, 3, 2, 1);
        int[] kept = new int[9];
        for (int k = 0; k < 9; k++) {
            kept[k] = desk.expand(1, k);
        }
        dueHand("expand leaves p", desk, 9, 8, 7, 6, 5, 4, 3, 2, 1);
        putAll(desk);
        for (int k = 0; k < 9; k++) {
            desk.plus(1, k, kept[k]);
        }
        dueHand("what was expanded", desk, 9, 8, 7, 6, 5, 4, 3, 2, 1);
        String before = state(desk);
        dueFor("expand k", NO_POWERS, OUTSIDE, k -> desk.expand(0, k));
        dueFor("expand row", NO_ROWS, UNKNOWN, row -> desk.expand(row, 9));
        dueSame("expand", desk, before);
    }

    // ---- promise 30

    private static void sum() {
        ShadowRowDesk desk = new ShadowRowDesk();
        putAll(desk, 7, -1, 3);
        due("sum(0)", desk.sum(0), 0);
        due("sum(1)", desk.sum(1), 7);
        due("sum(5)", desk.sum(5), 115);
        due("sum(500)", desk.sum(500), 1068);
        int[] noSums = {-1, 501, Integer.MIN_VALUE, Integer.MAX_VALUE};
        dueFor("sum", noSums, OUTSIDE, desk::sum);
    }

    // ---- promise 31

    private static void keep() {
        ShadowRowDesk desk = deskWith(FALLING);
        due("keep(0) of 0", desk.keep(0), 0);
        putAll(desk, 1, 0, 3, 0, 0, 0, 0, 0, 9972);
        int undoable = desk.count(1);
        due("keep(1)", desk.keep(1), 3);
        due("count(1)", desk.count(1), undoable);
        dueHand("keep(1)", desk, 1, 0, 3, 0, 0, 0, 0, 0, 9972);
        due("keep(1) again", desk.keep(1), 3);
        String before = state(desk);
        int[] noPlaces = {-1, 2, Integer.MIN_VALUE, Integer.MAX_VALUE};
        dueFor("keep", noPlaces, OUTSIDE, desk::keep);
        dueSame("keep", desk, before);
    }

    // ---- promise 32

    private static void back() {
        ShadowRowDesk desk = deskWith(FALLING, HERMITE, LAGUERRE, ABEL);
        putAll(desk, 1, 0, 3);
        due("back(0), nothing kept", desk.back(0), NOT);
        due("keep(0)", desk.keep(0), 2);
        due("back(1), nothing kept", desk.back(1), NOT);
        due("count(1) then", desk.count(1), 8);
        for (int row = 0; row < 4; row++) {
            readText(desk, row, BERNOULLI);
        }
        desk.put(5, 5);
        due("keep(1)", desk.keep(1), 3);
        letters(desk, "1;");
        for (int round = 0; round < 2; round++) {
            due("back(0)", desk.back(0), 2);
            dueHand("back(0)", desk, 1, 0, 3);
            duePolynomial(desk, 0, 4, 0, -6, 11, -6, 1);
            duePolynomial(desk, 1, 4, 3, 0, -6, 0, 1);
            duePolynomial(desk, 2, 3, 0, 0, 3, -1);
            duePolynomial(desk, 3, 3, 0, 9, -6, 1);
            due("series(0, 3, 2)", desk.series(0, 3, 2), by(-1, 2));
            due("count(1)", desk.count(1), 0);
            due("undo()", desk.undo(), NOT);
            due("THE TEXT is not kept", desk.count(2), 2);
            desk.put(7, 1);
            desk.part(0, 0, 1);
        }
        due("back(1)", desk.back(1), 3);
        due("back(1): rows", desk.differ(0, 3), NONE);
        due("back(1): hand(5)", desk.hand(5), 5);
        due("keep(0) anew", desk.keep(0), 3);
        desk.put(5, 0);
        due("back(0) anew", desk.back(0), 3);
        String before = state(desk);
        int[] noPlaces = {-1, 2, Integer.MIN_VALUE, Integer.MAX_VALUE};
        dueFor("back", noPlaces, OUTSIDE, desk::back);
        dueSame("back", desk, before);
    }

    // ---- promise 33

    private static void count() {
        ShadowRowDesk desk = deskWith("1+t^2;t", "1;t+5*t^2", "1;2*t-t^8", "1;t+t^4+t^5");
        due("count(0) of 0", desk.count(0), NONE);
        desk.put(0, 1);
        due("count(0) of 1", desk.count(0), 0);
        desk.put(8, 1);
        due("count(0) of x^8", desk.count(0), 8);
        due("count(1)", desk.count(1), 2);
        letters(desk, "1;t");
        due("count(2)", desk.count(2), 3);
        due("count(3)", desk.count(3), NONE);
        due("count(4)", desk.count(4), 2);
        due("count(5)", desk.count(5), 8);
        due("count(6)", desk.count(6), 4);
        int[] noCounts = {-1, 7, Integer.MIN_VALUE, Integer.MAX_VALUE};
        dueFor("count", noCounts, OUTSIDE, desk::count);
    }
}
