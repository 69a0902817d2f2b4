import java.util.ArrayList;
import java.util.List;

/**
 * "Refused, and nothing changes: .. of several that fit the one that the call names first."
 *
 * Each argument of each call at its lowest and highest, and just beyond; each two of them beyond at
 * once. Behind every refused call a desk tells all that another one tells on which it was not made.
 */
public final class RefusedTest {
    private static final int NONE = -1, UNKNOWN = -2, OUTSIDE = -3;

    /** The kinds of arguments: R a ROW, K a power, N a NUMBER, and those that one call alone has. */
    private static final String KINDS = "RKNLPSCAMTW";
    private static final int[] LOWEST = {0, 0, 0, 0, 0, 0, 1, 0, 0, 0, 0};
    private static final int[] HIGHEST = {3, 8, 9972, 255, 1, 3, 9972, 2, 500, 1, 6};

    private static final String[] CALLS = {"write L", "read R", "compose RRR", "invert RR", "part RRP", "move RRN",
        "stretch RRC", "series RSK", "polynomial RKK", "value RKN", "connect RRKK", "differ RR", "take RK", "put KN",
        "plus RKN", "act RA", "raise R", "shift N", "swap RR", "climb R", "weigh R", "hand K", "at N", "expand RK", "sum M",
        "keep T", "back T", "count W"};

    /** Four rows, two states kept, eight changes to undo, each with another p, and a TEXT that can be read. */
    private static final String BUSY = "'1;e(t)-1' read(0) 'e(t^2);t' read(1) put(1,5) keep(0) '1-t;t/(t-1)' read(2)"
            + " '3;2*t+t^8' read(3) put(0,7) put(3,2) keep(1) put(2,9) plus(2,3,4) act(1,0) shift(3) put(7,1) weigh(0)"
            + " put(8,0) '2+t;t'";

    private static int wrong = 0;
    private static int refusals = 0;

    private RefusedTest() {
    }

    public static void main(String[] args) {
        for (String call : CALLS) {
            String[] parts = call.split(" ");
            accepted(parts[0], parts[1]);
            beyond(parts[0], parts[1]);
            twoBeyond(parts[0], parts[1]);
        }
        namedLater();
        desksAreApart();
        System.out.println(refusals + " refusals, " + wrong + " wrong");
        if (wrong != 0) {
            System.exit(1);
        }
    }

    private static void hold(boolean holds, String what) {
        if (!holds) {
            wrong++;
            System.out.println(what);
        }
    }

    private static int lowest(char kind) {
        return LOWEST[KINDS.indexOf(kind)];
    }

    private static int highest(char kind) {
        return HIGHEST[KINDS.indexOf(kind)];
    }

    private static int[] beyondOf(char kind) {
        int low = lowest(kind);
        int high = highest(kind);
        return new int[] {low - 1, high + 1, low - 2, high + 2, Integer.MIN_VALUE, Integer.MIN_VALUE + 3,
            Integer.MAX_VALUE, high + 256, high + 65536, low - 65536};
    }

    private static int refusalOf(char kind) {
        return kind == 'R' ? UNKNOWN : OUTSIDE;
    }

    private static int[] lowestOf(String kinds) {
        int[] arguments = new int[kinds.length()];
        for (int i = 0; i < arguments.length; i++) {
            arguments[i] = lowest(kinds.charAt(i));
        }
        return arguments;
    }

    private static String told(String name, int[] arguments) {
        List<String> parts = new ArrayList<>();
        for (int argument : arguments) {
            parts.add(String.valueOf(argument));
        }
        return name + "(" + String.join(",", parts) + ")";
    }

    /** Every row, power, series .. there is; of NUMBERS the lowest and the highest. */
    private static void accepted(String name, String kinds) {
        for (int i = 0; i < kinds.length(); i++) {
            int low = lowest(kinds.charAt(i));
            int high = highest(kinds.charAt(i));
            for (int value = low; value <= high; value = value < low + 9 ? value + 1 : Math.max(high, value + 1)) {
                int[] arguments = lowestOf(kinds);
                arguments[i] = value;
                int got = new DeskRun().go(BUSY).call(name, arguments);
                hold(got >= NONE, told(name, arguments) + " is refused: " + got);
            }
        }
    }

    private static void beyond(String name, String kinds) {
        for (int i = 0; i < kinds.length(); i++) {
            for (int value : beyondOf(kinds.charAt(i))) {
                int[] arguments = lowestOf(kinds);
                arguments[i] = value;
                refused(BUSY, told(name, arguments), refusalOf(kinds.charAt(i)));
            }
        }
    }

    /** Where a call can answer both, it names UNKNOWN ahead of OUTSIDE. */
    private static void twoBeyond(String name, String kinds) {
        for (int i = 0; i < kinds.length(); i++) {
            for (int j = i + 1; j < kinds.length(); j++) {
                int want = Math.max(refusalOf(kinds.charAt(i)), refusalOf(kinds.charAt(j)));
                int[] arguments = lowestOf(kinds);
                arguments[i] = highest(kinds.charAt(i)) + 1;
                arguments[j] = highest(kinds.charAt(j)) + 1;
                refused(BUSY, told(name, arguments), want);
                arguments[i] = lowest(kinds.charAt(i)) - 1;
                arguments[j] = lowest(kinds.charAt(j)) - 1;
                refused(BUSY, told(name, arguments), want);
            }
        }
    }

    /** NOT, FULL, WRONG, each alone and with one that the call names ahead of it. */
    private static void namedLater() {
        String full = BUSY + " 115*write(32) count(2)=120";
        refused(full, "write(116)", DeskRun.due("FULL"));
        refused(full, "write(0)", DeskRun.due("FULL"));
        refused(full, "write(256)", OUTSIDE);
        refused(full, "write(-1)", OUTSIDE);
        String fault = BUSY + " ')'";
        refused(fault, "read(0)", DeskRun.due("NOT"));
        refused(fault, "read(4)", UNKNOWN);
        refused(BUSY + " erase()", "read(0)", DeskRun.due("NOT"));
        refused(BUSY + " erase() '1/0;t+'", "read(3)", DeskRun.due("NOT"));
        for (String text : new String[] {"1/0;t", "e(1);t", "q(1);t", "1;l(1)", "1;i(t^2)", "0;t", "1;1+t", "5;t^2"}) {
            refused(BUSY + " erase() '" + text + "'", "read(3)", DeskRun.due("WRONG"));
            refused(BUSY + " erase() '" + text + "'", "read(-1)", UNKNOWN);
        }
        String top = BUSY + " put(8,1)";
        for (String call : new String[] {"raise(0)", "raise(3)", "times()", "climb(0)", "climb(3)"}) {
            refused(top, call, DeskRun.due("NOT"));
        }
        for (String call : new String[] {"raise(4)", "raise(-1)", "climb(4)", "climb(-1)"}) {
            refused(top, call, UNKNOWN);
        }
        refused(BUSY + " back(0)", "undo()", DeskRun.due("NOT"));
        refused(BUSY + " 8*undo()", "undo()", DeskRun.due("NOT"));
        refused("put(3,4) put(4,5) '2;t'", "back(0)", DeskRun.due("NOT"));
        refused("put(3,4) put(4,5) keep(0) put(5,6) '2;t'", "back(1)", DeskRun.due("NOT"));
        refused("put(3,4) put(4,5) keep(1) put(5,6) '2;t'", "back(0)", DeskRun.due("NOT"));
        refused("put(3,4) '2;t'", "back(2)", OUTSIDE);
    }

    private static void refused(String ahead, String call, int want) {
        refusals++;
        DeskRun desk = new DeskRun().go(ahead);
        int open = call.indexOf('(');
        String[] parts = call.substring(open + 1, call.length() - 1).split(",");
        int[] arguments = new int[call.endsWith("()") ? 0 : parts.length];
        for (int i = 0; i < arguments.length; i++) {
            arguments[i] = Integer.parseInt(parts[i]);
        }
        int got = desk.call(call.substring(0, open), arguments);
        hold(got == want, call + " answered " + got + ", due is " + want);
        hold(all(desk).equals(all(new DeskRun().go(ahead))), call + " changed something");
        hold(desk.wrong.isEmpty(), call + ": " + desk.wrong);
    }

    /** All that a desk tells of itself; afterwards it is another one. */
    private static String all(DeskRun desk) {
        StringBuilder told = new StringBuilder();
        for (int what = 0; what <= 6; what++) {
            told.append(desk.call("count", what)).append(' ');
        }
        told.append(desk.call("fault")).append(" rows ");
        for (int row = 0; row < 4; row++) {
            for (int k = 0; k < 9; k++) {
                told.append(desk.call("series", row, 0, k)).append(' ').append(desk.call("series", row, 1, k)).append(' ');
                told.append(desk.call("value", row, k, 3)).append(' ');
            }
            told.append(desk.call("series", row, 2, 8)).append(' ').append(desk.call("series", row, 3, 8)).append(' ');
        }
        told.append(hand(desk)).append(" text ").append(desk.call("read", 0)).append(' ').append(desk.call("series", 0, 0, 0));
        told.append(' ').append(desk.call("erase"));
        for (int left = 0; left >= 0; ) {
            left = desk.call("undo");
            told.append(" undo ").append(left).append(hand(desk));
        }
        for (int k = 0; k < 2; k++) {
            told.append(" back ").append(desk.call("back", k)).append(hand(desk));
            for (int row = 0; row < 4; row++) {
                told.append(' ').append(desk.call("value", row, 8, 3)).append(' ').append(desk.call("value", row, 7, 5));
            }
        }
        return told.toString();
    }

    private static String hand(DeskRun desk) {
        StringBuilder told = new StringBuilder();
        for (int k = 0; k < 9; k++) {
            told.append(' ').append(desk.call("hand", k));
        }
        return told.toString();
    }

    /** What one desk does, another one does not see. */
    private static void desksAreApart() {
        String untouched = all(new DeskRun());
        DeskRun other = new DeskRun();
        new DeskRun().go(BUSY);
        hold(all(other).equals(untouched), "a desk sees what another one does");
        hold(all(new DeskRun()).equals(untouched), "a desk is not new");
    }
}
