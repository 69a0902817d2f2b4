import java.nio.file.Files;
import java.nio.file.Path;
import java.util.HashSet;
import java.util.Set;

/**
 * The document's boundary cases, sentence by sentence: what is too small, too large, empty, full,
 * goes round, or is refused. Each sentence stands with the runs that fail if it is broken; each run
 * is a script on a new desk (see DeskRun). That refused calls change nothing is in RefusedTest.
 */
public final class EdgesTest {
    private static final Path DOCUMENT = Path.of("../shared/DOC.md");

    private static final String FALLING = " '1;e(t)-1' ";
    private static final String HERMITE = " 'e(t^2/2);t' ";
    private static final String LAGUERRE = " '1-t;t/(t-1)' ";
    private static final String ONE_TO_NINE =
            " put(0,1) put(1,2) put(2,3) put(3,4) put(4,5) put(5,6) put(6,7) put(7,8) put(8,9) ";

    private static final Set<String> SENTENCES = new HashSet<>();

    private static String document = "";
    private static int wrong = 0;
    private static int runs = 0;

    private EdgesTest() {
    }

    public static void main(String[] args) throws Exception {
        document = Files.exists(DOCUMENT) ? folded(Files.readString(DOCUMENT)) : "";
        numbers();
        series();
        seriesOfSeries();
        rows();
        text();
        tokens();
        sums();
        powers();
        things();
        brackets();
        faults();
        reckoned();
        wrongSeries();
        wrongRows();
        told();
        rowsOfRows();
        movedAndStretched();
        askedOfRows();
        inHand();
        takenDownAndUp();
        shiftedAndTold();
        undone();
        askedOfHand();
        kept();
        counted();
        System.out.println(SENTENCES.size() + " sentences, " + runs + " runs, " + wrong + " wrong");
        if (wrong != 0) {
            System.exit(1);
        }
    }

    private static String folded(String told) {
        return told.replaceAll("\\s+", " ");
    }

    /** A sentence of the document, and the runs that would fail if it were broken. */
    private static void edge(String sentence, String... scripts) {
        SENTENCES.add(sentence);
        if (!document.isEmpty() && !document.contains(sentence)) {
            tell(sentence, "", "the document does not say so");
        }
        for (String script : scripts) {
            runs++;
            for (String fault : new DeskRun().go(script).wrong) {
                tell(sentence, script, fault);
            }
        }
    }

    private static void tell(String sentence, String script, String fault) {
        wrong++;
        System.out.println("\"" + sentence + "\": " + script + ": " + fault);
    }

    /** Texts and the places of their FAULTS; a text with one cannot be read. */
    private static void faultEdge(String sentence, Object... textsAndPlaces) {
        String[] scripts = new String[textsAndPlaces.length / 2];
        for (int i = 0; i < scripts.length; i++) {
            Object place = textsAndPlaces[2 * i + 1];
            String read = place.equals("NONE") ? "" : " read(0)=NOT";
            scripts[i] = "'" + textsAndPlaces[2 * i] + "' fault()=" + place + read + " fault()=" + place;
        }
        edge(sentence, scripts);
    }

    /** Texts without a FAULT that are WRONG, and stay. */
    private static void wrongEdge(String sentence, String... texts) {
        String[] scripts = new String[texts.length];
        for (int i = 0; i < texts.length; i++) {
            scripts[i] = "'" + texts[i] + "' fault()=NONE read(0)=WRONG count(2)=" + texts[i].length();
        }
        edge(sentence, scripts);
    }

    /** What is told as g, and the SERIES that it is. */
    private static String unit(String told, String numbers) {
        return "'" + told + ";t' fault()=NONE read(0)=1 series(0,0)=[" + numbers + "]";
    }

    /** What is told as f, and the SERIES that it is, whose first is 0. */
    private static String delta(String told, String numbers) {
        return "'1;" + told + "' fault()=NONE read(0)=" + numbers.split(",")[1] + " series(0,1)=[" + numbers + "]";
    }

    // ---- the terms

    private static void numbers() {
        edge("NUMBERS are 0 to 9972; all is reckoned by 9973 (a prime): what is left by it stands for sums,"
                        + " differences, products",
                unit("9972+9972", "9971"), unit("9972+2", "1"), unit("1+9971", "9972"),
                unit("0-1", "9972"), unit("0-9972", "1"), unit("3-9972", "4"),
                unit("9972*9972", "1"), unit("2*4987", "1"), unit("99*101", "26"), unit("9972^8", "1"),
                unit("9972^9", "9972"), "'9972+1;t' read(0)=WRONG", "'2*4986+1;t' read(0)=WRONG",
                "put(0,9972) plus(0,0,1)=0 plus(0,0,9972)=9972 plus(0,0,9972)=9971",
                "put(8,9972) put(0,9972) at(9972)=9971 at(1)=9971 at(9971)=-257");
        edge("a by b (b not 0) is the NUMBER that times b is a",
                unit("1/2", "4987"), unit("1/4987", "2"), unit("1/9972", "9972"), unit("9972/9972", "1"),
                unit("9972/2", "4986"), unit("0/9972+1", "1"), unit("3/7", "3/7"), unit("1/1", "1"));
        edge("An object is used for at most 512 calls after it has been made",
                "512*hand(8)=0", "write(116)=1 510*put(0,5) hand(0)=5", "511*count(2)=0 write(116)=1",
                "2*write(116) 509*times() count(1)=8", "keep(0)=0 254*put(0,1) 255*take(0,0)=1 back(0)=0 hand(0)=0");
    }

    private static void series() {
        edge("what would be beyond is left out, everywhere",
                unit("1+t^8", "1,0,0,0,0,0,0,0,1"), unit("1+t^9", "1"), unit("1+t^8*t", "1"), unit("1+t^4*t^5", "1"),
                unit("1+(t^3)^3", "1"), unit("1+(t^2)^4", "1,0,0,0,0,0,0,0,1"), unit("1+(t^9)^9", "1"),
                unit("(1+t^5)*(1+t^4)", "1,0,0,0,1,1"), unit("1/(1-t^5)", "1,0,0,0,0,1"),
                "'5+t^8;t+t^8' read(0)=1 '3;2*t+t^2' read(1)=2 compose(2,0,1)=2 series(2,0)=[15,0,0,0,0,0,0,0,768]"
                        + " series(2,1)=[0,2,1,0,0,0,0,0,256]",
                "'1;t+t^9' read(0) differ(0,1)=NONE count(3)=NONE", "'1;t/(1-t^8)' read(0) differ(0,1)=NONE count(3)=NONE",
                "'1/(1-t^9);t/(1-t^9)' read(0) differ(0,1)=NONE", "'e(t^9);i(t+t^9)' read(0) differ(0,1)=NONE",
                "'1/(1-t^5);t/(1-t^5)' read(0) compose(0,0,0) count(3)=6 series(0,1)=[0,1,0,0,0,0,2] series(0,0)=[1,0,0,0,0,2]");
        edge("h by m (m0 not 0) is the SERIES that times m is h",
                unit("1/(1+t)", "1,-1,1,-1,1,-1,1,-1,1"), unit("1/(1-t^8)", "1,0,0,0,0,0,0,0,1"),
                unit("(1-t^8)/(1-t)", "1,1,1,1,1,1,1,1,0"), delta("t/(1-t)", "0,1,1,1,1,1,1,1,1"),
                delta("t/(1-t^8)", "0,1"), unit("(2+t)/(2+t)", "1"), unit("1+0/(1+t)", "1"));
        edge("a UNIT, if h0 is not 0", unit("1", "1"), unit("9972", "9972"), unit("9972+t", "9972,1"),
                unit("1/(9972+t-t)", "9972"));
        edge("a DELTA, if it is FLAT and h1 is not 0", delta("t", "0,1"), delta("9972*t", "0,9972"),
                delta("t+9972-9972", "0,1"), delta("t+t^8", "0,1,0,0,0,0,0,0,1"), delta("i(2*t)", "0,1/2"));
    }

    private static void seriesOfSeries() {
        edge("h IN m (m FLAT): h0, and h1 times m, h2 times m^2, and so on, together",
                "'7+t+t^8;t' read(0)=1 '1;3*t' read(1)=3 compose(2,0,1)=3 series(2,0)=[7,3,0,0,0,0,0,0,6561]"
                        + " series(2,1)=[0,3]",
                "'7;t^7+t' read(0)=1 '1;t+t^2' read(1)=1 compose(2,0,1)=1 series(2,0)=[7]"
                        + " series(2,1)=[0,1,1,0,0,0,0,1,7]");
        edge("e(E): 1 by k! times E^k, for k from 0 on, together", unit("e(0)", "1"), unit("e(t^8)", "1,0,0,0,0,0,0,0,1"),
                unit("e(t^5)", "1,0,0,0,0,1"), unit("e(t^4)", "1,0,0,0,1,0,0,0,1/2"), unit("e(t^9)", "1"),
                unit("e(t)", "1,1,1/2,1/6,1/24,1/120,1/720,1/5040,1/40320"),
                unit("e(9972*t)", "1,-1,1/2,-1/6,1/24,-1/120,1/720,-1/5040,1/40320"));
        edge("q(E): 1 by (k and 1)! times E^k, likewise", unit("q(0)", "1"), unit("q(t^8)", "1,0,0,0,0,0,0,0,1/2"),
                unit("q(t^4)", "1,0,0,0,1/2,0,0,0,1/6"),
                unit("q(t)", "1,1/2,1/6,1/24,1/120,1/720,1/5040,1/40320,1/362880"));
        edge("l(E): E less E^2 by 2, and E^3 by 3, less E^4 by 4, and so on", unit("1+l(0)", "1"),
                unit("1+l(t^8)", "1,0,0,0,0,0,0,0,1"), unit("1+l(t^4)", "1,0,0,0,1,0,0,0,-1/2"),
                delta("l(t)", "0,1,-1/2,1/3,-1/4,1/5,-1/6,1/7,-1/8"),
                delta("l(0-t)", "0,-1,-1/2,-1/3,-1/4,-1/5,-1/6,-1/7,-1/8"));
        edge("i(E): the FLAT SERIES m by which E IN m is t", delta("i(t)", "0,1"), delta("i(9972*t)", "0,9972"),
                delta("i(2*t)", "0,1/2"), delta("i(t+t^8)", "0,1,0,0,0,0,0,0,-1"),
                delta("i(t-t^2)", "0,1,1,2,5,14,42,132,429"),
                "'1;i(3*t-t^2+5*t^8)' read(0)=1/3 '1;3*t-t^2+5*t^8' read(1)=3 compose(2,1,0)=1 series(2,1)=[0,1]"
                        + " compose(2,0,1)=1 series(2,1)=[0,1]");
    }

    private static void rows() {
        edge("h0 times it, h1 times its derivative, h2 times the derivative of that, and so on, together",
                "'3+t^8;t' read(0)=1 put(8,1) act(0,0)=40320 hand()=[40320,0,0,0,0,0,0,0,3]",
                "put(8,1) act(0,1)=0 hand()=[0,0,0,0,0,0,0,8]", "put(0,5) act(0,1)=0 count(0)=NONE",
                "act(0,0)=0 act(0,1)=0 act(0,2)=0 count(0)=NONE");
        String[] told = {FALLING, HERMITE, LAGUERRE, " '9972+t^8;9972*t+t^2-t^8' ", " '2-t;3*t' "};
        for (String row : told) {
            edge("sn TAKEN BY f is n times the one ahead of it (s0: nothing, 0)", takenByF(row));
            edge("TAKEN BY g it is 1 (of s0), 0 (of others) at x 0", takenByG(row));
        }
        edge("There are ROWS 0 to 3 (at first each 1, t: so sn is x^n)",
                ofNewRow(0), ofNewRow(1), ofNewRow(2), ofNewRow(3),
                "count(3)=NONE count(4)=NONE count(5)=NONE count(6)=NONE", "series(4,0,0)=UNKNOWN series(-1,0,0)=UNKNOWN");
        edge("IN HAND there is a POLYNOMIAL p (0 at first)", "hand()=[0] count(0)=NONE at(9972)=0 sum(500)=0 undo()=NOT");
    }

    private static String takenByF(String row) {
        StringBuilder script = new StringBuilder(row + "read(0) take(0,0) act(0,1)=0 hand()=[0]");
        for (int n = 1; n < 9; n++) {
            script.append(" take(0,").append(n).append(") act(0,1) expand(0)=[").append("0,".repeat(n - 1)).append(n)
                    .append("]");
        }
        return script.toString();
    }

    private static String takenByG(String row) {
        StringBuilder script = new StringBuilder(row + "read(0)");
        for (int n = 0; n < 9; n++) {
            script.append(" take(0,").append(n).append(") act(0,0)=").append(n == 0 ? 1 : 0);
        }
        return script.toString();
    }

    private static String ofNewRow(int row) {
        StringBuilder script = new StringBuilder();
        for (int n = 0; n < 9; n++) {
            script.append(" polynomial(" + row + "," + n + ")=[" + "0,".repeat(n) + "1]");
        }
        return script + " series(" + row + ",0)=[1] series(" + row + ",1)=[0,1] series(" + row + ",2)=[1] series("
                + row + ",3)=[0,1]";
    }

    // ---- the text

    private static void text() {
        String full = "1;" + "t+".repeat(58) + " t";
        edge("THE TEXT is a row of letters, 120 at most",
                "119*write(32) write(32)=120 write(32)=FULL count(2)=120 write(255)=FULL count(2)=120",
                "'" + full + "' count(2)=120 write(41)=FULL fault()=NONE read(0)=59 series(0,1)=[0,59] count(2)=0",
                "'1;t" + "*1".repeat(56) + "*9972' count(2)=120 fault()=NONE read(0)=9972",
                "'1;t" + "*1".repeat(57) + "*99' count(2)=120 fault()=NONE read(0)=99",
                "'1;t" + "*1".repeat(58) + "' count(2)=119 write(32)=120 fault()=NONE read(0)=1",
                "'1;t" + "*1".repeat(57) + "^9 ' count(2)=120 fault()=NONE read(0)=1",
                "'" + " ".repeat(117) + "1;t' count(2)=120 fault()=NONE read(0)=1",
                "'1;t" + "*(1)".repeat(29) + " ' count(2)=120 fault()=NONE read(0)=1");
    }

    private static void tokens() {
        faultEdge("TOKENS: a row of digits; any other letter; blanks may lie around them",
                " 1 ; t ", "NONE", "   1;t", "NONE", "1;t   ", "NONE", "1  ;   t ^  2  +  t", "NONE",
                "e  (  t  )  /  2  ; i  (  t  )  -  0  * t", "NONE", "99 72;t", 3, "1;9 *t+1 0", 9, "1;t^ 1 1", 7,
                "12;t", "NONE", "1 2;t", 2, "1;t t", 4, "1;tt", 3);
        edge("any other letter",
                "'1;t' write(9) fault()=3", "'1;t' write(10) fault()=3", "'1;t' write(0) fault()=3",
                "'1;t' write(13) fault()=3", "'1;t' write(31) fault()=3", "'1;t' write(33) fault()=3",
                "'1;t' write(160) fault()=3", "'1;t' write(255) fault()=3", "'1;t' write(32) fault()=NONE",
                "write(0) '1;t' fault()=0", "write(9) '1;t' fault()=0", "write(47) '1;t' fault()=0",
                "write(58) '1;t' fault()=0", "write(180) '1;t' fault()=0", "write(84) ';t' fault()=0");
        faultEdge("It tells g ; f (; as a TOKEN between)",
                ";", 0, ";t", 0, " ;t", 1, "1", 1, "1 ", 2, "1;", 2, "1; ", 3, "1;t", "NONE", "1;;t", 2, "1;t;", 3,
                "1;t ;", 4, "1;t;t", 3, "1t", 1, "1,t", 1, "1:t", 1, "(1;t)", 2, "1;(t;)", 4, "t;1", "NONE");
    }

    private static void sums() {
        faultEdge("each a SUM: PRODUCTS with + or - between",
                "+1;t", 0, "-1;t", 0, "1+;t", 2, "1-;t", 2, "1;+t", 2, "1;-t", 2, "1;t+", 4, "1;t-", 4, "1;t--t", 4,
                "1;t+-t", 4, "1;t-+t", 4, "1+1;t-t", "NONE", "1-1+1;t+t-t", "NONE");
        faultEdge("A PRODUCT: POWERS with * or / between",
                "*1;t", 0, "/1;t", 0, "1*;t", 2, "1/;t", 2, "1;t*", 4, "1;t/", 4, "1;t**t", 4, "1;t//t", 4,
                "1;t*/t", 4, "1;t*-t", 4, "1;t+*t", 4, "1*1;t/1", "NONE", "1/1*1;t*t/1", "NONE");
    }

    private static void powers() {
        faultEdge("A POWER: a THING, or a THING ^ N (a row of one digit)",
                "1;t^0", "NONE", "1;t^9", "NONE", "9972^9;t", "NONE", "1;(t)^1", "NONE", "e(t)^2;t", "NONE",
                "1;t^", 4, "1;t^ ", 5, "1;t^;", 4, "1;t^10", 4, "1;t^00", 4, "1;t^01", 4, "1;t^1234567890", 4,
                "1;t^t", 4, "1;t^(1)", 4, "1;t^-1", 4, "1;t^+1", 4, "1;t^^1", 4, "1;t^1^1", 5, "1;^1", 2, "^1;t", 0,
                "e^2(t);t", 1, "1;t^1t", 5, "1;(t^1)^1", "NONE", "1;t^1*t^2", "NONE");
    }

    private static void things() {
        faultEdge("a NUMBER (a row of 1 to 4 digits, 9972 at most)",
                "0;t", "NONE", "9;t", "NONE", "99;t", "NONE", "999;t", "NONE", "9972;t", "NONE", "9973;t", 0,
                "9979;t", 0, "9980;t", 0, "9999;t", 0, "10000;t", 0, "99720;t", 0, "0000;t", "NONE", "0009;t", "NONE",
                "00000;t", 0, "00009;t", 0, "4294967297;t", 0, "18446744073709551617;t", 0, "9".repeat(120), 0,
                "0".repeat(120), 0, "1;t*9973", 4, "1; 10000", 3, "1;(9973*t)", 3, "1;t+1", "NONE");
        edge("a NUMBER (a row of 1 to 4 digits, 9972 at most)", unit("9972", "9972"), unit("0009", "9"),
                unit("9000", "9000"), unit("1000", "1000"), unit("7", "7"), unit("1+0", "1"), unit("0001", "1"));
        faultEdge("t; ( SUM )", "T;t", 0, "x;t", 0, "1;2t", 3, "1;t2", 3, "()", 1, "1;()", 3, "1;(t", 4, "1;(t+)", 5,
                "1;t)", 3, ")", 0, "1;)", 2, "1;(t))", 5, "1;(t)(t)", 5, "1;2(t)", 3, "1;(t)2", 5, "1;(t)", "NONE");
        for (String name : new String[] {"e", "q", "l", "i"}) {
            faultEdge("e, q, l or i, and ( SUM ) behind it", name, 1, name + " ", 2, name + ";t", 1, name + "t", 1,
                    name + "1", 1, name + "^2", 1, name + "+1", 1, name + name + "(t)", 1, name + "(", 2, name + "()", 2,
                    name + "(t", 3, name + "(t;", 3, name + ")", 1, name + "(t)(t)", 4, name + "(t)t", 4,
                    name.toUpperCase() + "(t);t", 0, "1;" + name + "(t)", "NONE", "1; " + name + " ( t ) ", "NONE",
                    "1;t" + name + "(t)", 3, "1;2" + name + "(t)", 3);
        }
        faultEdge("e, q, l or i, and ( SUM ) behind it", "d(t);t", 0, "f(t);t", 0, "p(t);t", 0, "r(t);t", 0, "k(t);t", 0,
                "m(t);t", 0, "h(t);t", 0, "j(t);t", 0, "t(t);t", 1);
    }

    private static void brackets() {
        faultEdge("At most 6 ( may be open at a time",
                "((((((1))))));((((((t))))))", "NONE", "(((((1)))));t", "NONE", "(((((((1)))))));t", 6,
                "1;(((((((t)))))))", 8, "((((((1))))))+((((((1))))));t", "NONE", "(((((1)*((2)))))*3);t", "NONE",
                "(((((1)*(((2)))))));t", 10, "1;((((((t+(", 10, "1;((((((t)+(t))))))", "NONE",
                "1;((((((t)+((t", 12);
        faultEdge("a seventh ( )",
                "(((((((", 6, "((((((", 6, "(((((( (", 7, "((((((1", 7, "((((((e(t)", 7, "((((((e", 7, "((((((et", 7,
                "1;e(q(l(i(e(q(t))))))", "NONE", "1;e(q(l(i(e(q(l(t)))))))", 15, "1;i(i(i(i(i(i(i(", 15,
                "(((i(i(i(i(", 10, "((((((q(", 7, "((((((l(", 7, "((((((i(", 7);
        edge("At most 6 ( may be open at a time",
                "'1;i(i(i(i(i(i(2*t))))))' read(0)=2", "'1;" + "0+1*(".repeat(6) + "2*t^1" + ")^1".repeat(6) + "' read(0)=2",
                "'((((((7))))))/((((((7))))));((((((t))))))' read(0)=1 series(0,0)=[1]",
                "'1;" + "3-2*(".repeat(6) + "3-2*t" + ")".repeat(6) + "-129' read(0)=-128",
                "'" + "1+1*(".repeat(6) + "1+1*1" + ")".repeat(6) + ";" + "0+1*(".repeat(6) + "0+1*t" + ")".repeat(6)
                        + "' count(2)=83 read(0)=1 series(0,0)=[8]");
    }

    private static void faults() {
        faultEdge("or the end, if it comes too soon",
                "", 0, " ", 1, " ".repeat(120), 120, "1;" + "t+".repeat(59), 120, "1;" + "t*".repeat(58) + "t^", 120,
                "1".repeat(4) + " ".repeat(116), 120, "1;t+   ", 7, "1;e(t", 5, "1;(((t))", 8);
        faultEdge("FAULT: the first TOKEN that cannot stand there",
                "1;" + "t+".repeat(58) + "t)", 119, "1;" + "t+".repeat(58) + "t+", 120, "1;t" + "+t".repeat(55) + " +99720", 115,
                "1;t" + "*1".repeat(56) + "*9973", 116, "1;t+)+)", 4, "x;y", 0, "1;t+9973*x", 4, "1;t   )", 6,
                "1;t   9973", 6, "1/0;", 4, "e(1);", 5);
        edge("The place of the FAULT (the letter with which the TOKEN begins, or the length); NONE",
                "fault()=0 write(32)=1 fault()=1 write(49)=2 fault()=2 write(59)=3 fault()=3 write(116)=4 fault()=NONE"
                        + " write(116)=5 fault()=4 write(116)=6 fault()=4 erase()=6 fault()=0",
                "'1;t+1' fault()=NONE write(49) fault()=NONE write(49) fault()=NONE write(49) fault()=NONE write(49)"
                        + " fault()=4",
                "'t;0' fault()=NONE", "'1/0;e(1)' fault()=NONE count(2)=8",
                "'1;t' fault()=NONE fault()=NONE read(0)=1 fault()=0");
    }

    private static void reckoned() {
        edge("What is told is reckoned from the left on: + - of SUMS, * / of PRODUCTS",
                unit("8-2-2", "4"), unit("8-2+2", "8"), unit("8-(2+2)", "4"), unit("8/2/2", "2"), unit("8/2*2", "8"),
                unit("8/(2*2)", "2"), unit("2+3*4", "14"), unit("2*3+4", "10"), unit("9-4/2", "7"), unit("1-2-3*4/6", "-3"));
        edge("a POWER: 1 times the THING N times",
                unit("0^0", "1"), unit("t^0", "1"), unit("(t-t)^0", "1"), unit("5^0", "1"), unit("(3+t)^0", "1"),
                unit("(3+t)^1", "3,1"), unit("2^9", "512"), unit("2*3^2", "18"), unit("0^1+1", "1"),
                unit("(1+t)^8", "1,8,28,56,70,56,28,8,1"), unit("(1+t)^9", "1,9,36,84,126,126,84,36,9"),
                unit("2-1^2", "1"), unit("1/2^2", "1/4"), unit("1/t^0", "1"), unit("e(t)^2/e(2*t)", "1"));
    }

    private static void wrongSeries() {
        wrongEdge("It is WRONG where / has a SERIES behind it that is no UNIT",
                "1/0;t", "1/t;t", "1;t/t", "1;t^2/t", "0/0;t", "1/(t+t^2);t", "1/(1-1);t", "1/(9972+1);t", "1/t^1;t",
                "1/0^1;t", "1/(t*5);t", "1+0/0;t", "1+0*(1/0);t", "(1/0)^0;t", "1;t+t/t^8", "1;t+t/(e(t)-1)",
                "1;t/l(t)", "1;t/i(t)");
        wrongEdge("e, q, l one that is not FLAT",
                "e(1);t", "q(1);t", "1;l(1)", "e(9972);t", "q(9972);t", "1;l(9972)", "e(1+t);t", "q(1+t);t", "1;l(1+t)",
                "1+0*e(1);t", "1+0*q(1);t", "1+0*l(1);t", "e(2)^0;t", "q(2)^0;t", "l(2)^0;t", "e(e(t));t", "e(t^0);t",
                "1;l(e(t))", "1;t+l(9972+2)");
        wrongEdge("i one that is no DELTA",
                "1;i(0)", "1;i(1)", "1;i(9972)", "1;i(1+t)", "1;i(t^2)", "1;i(0*t)", "1;i(9972*t+t)", "1;i(t^8)", "1;i(t^9)",
                "1+0*i(0);t", "i(t^2)^0;t", "1;t+0*i(t-t)", "1;i(e(t))");
        edge("e, q, l one that is not FLAT", unit("e(t+9972+1)", "1,1,1/2,1/6,1/24,1/120,1/720,1/5040,1/40320"),
                unit("e(t^9)*q(t^9)+l(t^9)", "1"), unit("e(t-t)*q(0*t)+l(1-1)", "1"));
    }

    private static void wrongRows() {
        wrongEdge("where g is no UNIT", "0;t", "t;t", "t^8;t", "1-1;t", "9972+1;t", "0*e(t);t", "l(t);t", "t+t^2;t");
        wrongEdge("or f no DELTA", "1;0", "1;1", "1;9972", "1;1+t", "1;9972+t", "1;t^2", "1;t^8", "1;t^9", "1;t-t", "1;0*t",
                "1;9972*t+t", "1;e(t)", "1;q(t)*t-t", "1;t^0", "0;0");
    }

    // ---- what is told

    private static void told() {
        edge("As told; no letters", "count(2)=0 erase()=0 fault()=0 read(0)=NOT count(1)=0 undo()=NOT back(0)=NOT"
                + " back(1)=NOT count(0)=NONE differ(0,1)=NONE differ(1,2)=NONE differ(2,3)=NONE");
        edge("A letter (its number, 0 to 255) more of THE TEXT: how many it has. OUTSIDE; FULL",
                "write(0)=1 write(255)=2 write(-1)=OUTSIDE write(256)=OUTSIDE count(2)=2 write(116)=3",
                "120*write(0) write(0)=FULL write(-1)=OUTSIDE write(256)=OUTSIDE count(2)=120",
                "119*write(0) write(256)=OUTSIDE write(0)=120 write(0)=FULL erase()=120 write(0)=1");
        edge("THE TEXT is empty: how many letters it had",
                "erase()=0 erase()=0", "write(32)=1 erase()=1 erase()=0 count(2)=0 fault()=0 read(0)=NOT",
                "120*write(116) erase()=120 count(2)=0 erase()=0 '1;t' fault()=NONE",
                "'1;t^55' fault()=4 erase()=6 '1;t^1' fault()=NONE", "'1;9973' fault()=2 erase()=6 '1;9' fault()=NONE");
        edge("A ROW becomes what THE TEXT tells, and that is empty then: f1",
                "'5;9972*t' read(3)=9972 count(2)=0 fault()=0 read(3)=NOT write(116)=1 series(3,0)=[5] series(3,1)=[0,9972]"
                        + " series(0,0)=[1] series(1,0)=[1] series(2,0)=[1]",
                "'5;2*t' read(0)=2 polynomial(0,8,8)=1/1280 series(1,0)=[1] series(2,0)=[1] series(3,0)=[1]",
                "put(0,7) '1;t+t^2' read(0)=1 hand()=[7] count(1)=1");
        edge("UNKNOWN; NOT: it has a FAULT; WRONG",
                "read(4)=UNKNOWN read(-1)=UNKNOWN read(0)=NOT", "'1/0;' read(4)=UNKNOWN read(0)=NOT 't' read(0)=WRONG"
                        + " read(4)=UNKNOWN count(2)=5 fault()=NONE erase()=5 '1;t' read(4)=UNKNOWN read(0)=1",
                "'0;t+' read(1)=NOT 't' read(1)=WRONG count(2)=5", "'1;t^2' read(0)=WRONG '+t' read(0)=1");
    }

    // ---- rows

    private static void rowsOfRows() {
        String two = "'1+t;t+t^2' read(0) '1-t;2*t+t^3' read(1) ";
        String put = "=[1,1,-2,1,-1] ";
        edge("g is g of other times (g of one IN f of other), f is f of one IN f of other, as they were: f1",
                two + "compose(2,0,1)=2 series(2,0)" + put + "series(2,1)=[0,2,4,1,4,0,1] series(0,1)=[0,1,1]",
                two + "compose(0,0,1)=2 series(0,0)" + put + "series(0,1)=[0,2,4,1,4,0,1] series(1,0)=[1,-1]",
                two + "compose(1,0,1)=2 series(1,0)" + put + "series(1,1)=[0,2,4,1,4,0,1] series(0,0)=[1,1]",
                two + "compose(0,0,0)=1 series(0,0)=[1,2,2,1] series(0,1)=[0,1,2,2,1]",
                two + "compose(3,0,2)=1 differ(3,0)=NONE compose(3,2,1)=2 differ(3,1)=NONE",
                "compose(0,0,4)=UNKNOWN compose(0,4,0)=UNKNOWN compose(4,0,0)=UNKNOWN compose(-1,-1,-1)=UNKNOWN");
        edge("g is 1 by (g of that IN i(f of that)), f is i(f of that): f1",
                "'1+t;2*t' read(0) invert(1,0)=1/2 series(1,1)=[0,1/2]"
                        + " series(1,0)=[1,-1/2,1/4,-1/8,1/16,-1/32,1/64,-1/128,1/256] series(0,0)=[1,1]",
                "'2;t+t^8' read(0) invert(0,0)=1 series(0,0)=[1/2] series(0,1)=[0,1,0,0,0,0,0,0,-1] invert(0,0)=1"
                        + " series(0,0)=[2] series(0,1)=[0,1,0,0,0,0,0,0,1]",
                "'3+t;9972*t-t^2' read(2) invert(3,2)=9972 compose(1,2,3)=1 differ(1,0)=NONE compose(1,3,2)=1"
                        + " differ(1,0)=NONE",
                "invert(1,0)=1 differ(0,1)=NONE invert(4,0)=UNKNOWN invert(0,4)=UNKNOWN");
        edge("A ROW becomes another one with 1 for g (part 0), with t for f (1): f1",
                "'2+t;3*t+t^2' read(0) part(1,0,0)=3 series(1,0)=[1] series(1,1)=[0,3,1] part(2,0,1)=1 series(2,0)=[2,1]"
                        + " series(2,1)=[0,1] part(0,0,0)=3 series(0,0)=[1] series(0,1)=[0,3,1] part(0,0,1)=1 series(0,1)=[0,1]",
                "'2+t;3*t+t^2' read(0) part(0,0,-1)=OUTSIDE part(0,0,2)=OUTSIDE part(4,0,2)=UNKNOWN part(0,4,2)=UNKNOWN"
                        + " series(0,0)=[2,1] series(0,1)=[0,3,1]",
                "'2+t;3*t+t^2' read(0) part(0,0,1)=1 series(0,0)=[2,1] series(0,1)=[0,1] polynomial(0,1)=[-1/4,1/2]");
    }

    private static void movedAndStretched() {
        edge("A ROW becomes another one with g times e((0 less a) times t), that is: each sn is that one's at x and a"
                        + " NUMBER a together: f1",
                "move(1,0,9972)=1 series(1,0)=[1,1,1/2,1/6,1/24,1/120,1/720,1/5040,1/40320]"
                        + " polynomial(1,8)=[1,-8,28,-56,70,-56,28,-8,1] series(1,1)=[0,1] differ(0,2)=NONE",
                "move(1,0,1)=1 series(1,0)=[1,-1,1/2,-1/6,1/24,-1/120,1/720,-1/5040,1/40320] polynomial(1,2)=[1,2,1]",
                "move(0,0,0)=1 differ(0,1)=NONE move(0,0,1)=1 move(0,0,1)=1 polynomial(0,2)=[4,4,1] move(0,0,9971)=1"
                        + " differ(0,1)=NONE",
                "'2+t;9972*t+t^2' read(0) move(1,0,0)=9972 differ(0,1)=NONE move(1,0,5)=9972 value(1,7,9970)=3280"
                        + " value(0,7,2)=3280 value(0,7,9970)=6333",
                "move(0,0,-1)=OUTSIDE move(0,0,9973)=OUTSIDE move(4,0,-1)=UNKNOWN move(0,4,9973)=UNKNOWN differ(0,1)=NONE");
        edge("A ROW becomes another one with g IN, f IN t by a NUMBER c (1 to 9972), that is: each sn is that one's at c"
                        + " times x: f1",
                "stretch(1,0,1)=1 differ(0,1)=NONE stretch(1,0,9972)=9972 polynomial(1,3)=[0,0,0,-1] polynomial(1,2)=[0,0,1]",
                "stretch(1,0,2)=1/2 polynomial(1,8)=[0,0,0,0,0,0,0,0,256] stretch(1,1,2)=1/4 polynomial(1,2)=[0,0,16]",
                "'1+t+t^8;t+t^8' read(0) stretch(1,0,2)=1/2 series(1,0)=[1,1/2,0,0,0,0,0,0,1/256]"
                        + " series(1,1)=[0,1/2,0,0,0,0,0,0,1/256]",
                "stretch(0,0,0)=OUTSIDE stretch(0,0,-1)=OUTSIDE stretch(0,0,9973)=OUTSIDE stretch(4,0,0)=UNKNOWN"
                        + " stretch(0,4,0)=UNKNOWN differ(0,1)=NONE");
    }

    private static void askedOfRows() {
        edge("Of a ROW: g (what 0), f (1), 1 by g (2), i(f) (3): the NUMBER of t^k",
                "'2-2*t;t-t^2' read(3) series(3,0)=[2,-2] series(3,1)=[0,1,-1] series(3,3)=[0,1,1,2,5,14,42,132,429]"
                        + " series(3,2)=[1/2,1/2,1/2,1/2,1/2,1/2,1/2,1/2,1/2]",
                "series(0,0,-1)=OUTSIDE series(0,0,9)=OUTSIDE series(0,-1,0)=OUTSIDE series(0,4,0)=OUTSIDE"
                        + " series(4,4,9)=UNKNOWN series(-1,-1,-1)=UNKNOWN");
        edge("Of a ROW: the NUMBER of x^k of sn",
                FALLING + "read(3) polynomial(3,0)=[1] polynomial(3,1)=[0,1] polynomial(3,2)=[0,-1,1]"
                        + " polynomial(3,8)=[0,-5040,13068,-13132,6769,-1960,322,-28,1]",
                "'5;2*t' read(0) polynomial(0,0)=[1/5] polynomial(0,8,8)=1/1280",
                "polynomial(0,-1,0)=OUTSIDE polynomial(0,9,0)=OUTSIDE polynomial(0,0,-1)=OUTSIDE polynomial(0,0,9)=OUTSIDE"
                        + " polynomial(4,9,9)=UNKNOWN");
        edge("Of a ROW: sn at a NUMBER x",
                FALLING + "read(3) value(3,0,0)=1 value(3,8,0)=0 value(3,8,7)=0 value(3,8,8)=40320 value(3,8,9972)=40320"
                        + " value(3,1,9972)=9972 value(0,0,0)=1 value(0,0,9972)=1 value(0,8,9972)=1 value(0,7,9972)=9972",
                "value(0,0,-1)=OUTSIDE value(0,0,9973)=OUTSIDE value(0,9,0)=OUTSIDE value(0,-1,0)=OUTSIDE"
                        + " value(4,9,9973)=UNKNOWN");
        edge("sn of one ROW is the sum of NUMBERS times s0 to s8 of another one: that of sk",
                FALLING + "read(1) connect(0,1,8)=[0,1,127,966,1701,1050,266,28,1] connect(0,1,0)=[1] connect(0,1,1)=[0,1]"
                        + " connect(1,0,8)=[0,-5040,13068,-13132,6769,-1960,322,-28,1] connect(1,1,8)=[0,0,0,0,0,0,0,0,1]"
                        + " connect(1,1,0)=[1]",
                "'5;2*t' read(0) connect(0,1,1)=[0,1/10] connect(1,0,1)=[0,10] connect(0,1,8,8)=1/1280 connect(1,0,8,8)=1280",
                "connect(0,0,-1,0)=OUTSIDE connect(0,0,9,0)=OUTSIDE connect(0,0,0,-1)=OUTSIDE connect(0,0,0,9)=OUTSIDE"
                        + " connect(4,0,9,9)=UNKNOWN connect(0,4,9,9)=UNKNOWN");
        edge("The least n by which sn of two ROWS (or of one and itself) are unlike; NONE",
                "differ(0,0)=NONE differ(3,3)=NONE differ(0,3)=NONE '2;t' read(3) differ(0,3)=0 differ(3,0)=0 differ(3,3)=NONE",
                "'1;2*t' read(0) differ(0,3)=1 '1;t+t^2' read(1) differ(1,3)=2 '1;t+t^8' read(2) differ(2,3)=8 differ(3,2)=8",
                "'1+t^8;t' read(0) differ(0,3)=8 '1+t^7;t' read(1) differ(1,3)=7 differ(1,0)=7 '1+t;t' read(2) differ(2,3)=1",
                "differ(4,0)=UNKNOWN differ(0,4)=UNKNOWN differ(-1,-1)=UNKNOWN differ(4,4)=UNKNOWN");
    }

    // ---- in hand

    private static void inHand() {
        edge("p becomes sn of a ROW: its NUMBER of x^n",
                "'5;2*t' read(3) take(3,0)=1/5 hand()=[1/5] take(3,8)=1/1280 hand()=[0,0,0,0,0,0,0,0,1/1280] count(1)=2",
                LAGUERRE + "read(0)=9972 take(0,3)=9972 hand()=[0,0,3,-1] put(0,5) polynomial(0,3)=[0,0,3,-1]",
                "put(0,5) take(0,-1)=OUTSIDE take(0,9)=OUTSIDE take(4,9)=UNKNOWN hand()=[5] count(1)=1");
        edge("p has the NUMBER a of x^k: what it was",
                "put(0,9972)=0 put(0,9972)=9972 put(0,0)=9972 put(8,1)=0 put(8,0)=1 count(0)=NONE count(1)=5",
                "put(8,0)=0 count(1)=1 put(0,0)=0 count(1)=2",
                "put(-1,0)=OUTSIDE put(9,0)=OUTSIDE put(0,-1)=OUTSIDE put(0,9973)=OUTSIDE count(1)=0 hand()=[0]");
        edge("p becomes more by a NUMBER c times sn of a ROW: p at 0 then",
                "plus(0,0,1)=1 plus(0,0,9972)=0 count(0)=NONE plus(0,8,0)=0 count(0)=NONE count(1)=3 plus(0,8,9972)=0"
                        + " hand()=[0,0,0,0,0,0,0,0,9972] plus(0,8,2)=0 hand(8)=1",
                HERMITE + "read(3) put(0,5) plus(3,4,2)=11 hand()=[11,0,-12,0,2] plus(3,4,9971)=5 hand()=[5]",
                "plus(0,-1,0)=OUTSIDE plus(0,9,0)=OUTSIDE plus(0,0,-1)=OUTSIDE plus(0,0,9973)=OUTSIDE plus(4,9,9973)=UNKNOWN"
                        + " count(1)=0");
    }

    private static void takenDownAndUp() {
        edge("p is TAKEN BY g (what 0), f (1), 1 by g (2) of a ROW: p at 0 then",
                "put(8,1) 8*act(0,1) hand()=[40320] act(0,1)=0 count(0)=NONE act(0,1)=0 count(1)=8",
                "'2;t' read(3) put(8,1) put(0,3) act(3,2)=3/2 hand()=[3/2,0,0,0,0,0,0,0,1/2] act(3,0)=3 act(3,0)=6 hand(8)=2",
                "act(0,-1)=OUTSIDE act(0,3)=OUTSIDE act(4,3)=UNKNOWN count(1)=0");
        edge("p becomes the POLYNOMIAL that is 0 at 0 and is p if it is TAKEN BY f of a ROW: p at 1 then",
                "raise(0)=0 count(0)=NONE count(1)=1 put(0,1) raise(0)=1 hand()=[0,1] raise(0)=1/2 hand()=[0,0,1/2]",
                FALLING + "read(3) put(1,1) raise(3)=0 hand()=[0,-1/2,1/2] act(3,1)=0 hand()=[0,1]",
                "'5-t;3*t+t^2-t^8' read(2) put(0,1) put(7,9972) raise(2) at(0)=0 count(0)=8 act(2,1)=1"
                        + " hand()=[1,0,0,0,0,0,0,9972]",
                "'5;t' read(0) put(7,8) raise(0)=1 hand()=[0,0,0,0,0,0,0,0,1]",
                FALLING + "read(0) '1;2*t' read(1) put(1,1) raise(0)=0 hand()=[0,-1/2,1/2] act(0,1)=0 raise(1)=1/4 raise(2)=1/12"
                        + " hand()=[0,0,0,1/12]");
        edge("UNKNOWN; NOT: p has x^8",
                "put(7,1) raise(0)=1/8 raise(0)=NOT raise(4)=UNKNOWN raise(-1)=UNKNOWN hand()=[0,0,0,0,0,0,0,0,1/8] count(1)=2",
                "put(8,9972) raise(3)=NOT put(8,0) raise(3)=0 count(1)=3 raise(4)=UNKNOWN",
                "put(7,1) climb(0)=0 climb(0)=NOT climb(4)=UNKNOWN climb(-1)=UNKNOWN hand()=[0,0,0,0,0,0,0,0,1] count(1)=2",
                "put(8,9972) climb(3)=NOT put(8,0) climb(3)=0 count(1)=3 climb(4)=UNKNOWN");
        edge("p becomes what it is at x and a NUMBER a together: p at 0 then",
                "put(8,1) shift(9972)=1 hand()=[1,-8,28,-56,70,-56,28,-8,1] shift(1)=0 hand()=[0,0,0,0,0,0,0,0,1]"
                        + " shift(0)=0 hand(8)=1 count(1)=4",
                "shift(0)=0 shift(9972)=0 count(0)=NONE count(1)=2 shift(-1)=OUTSIDE shift(9973)=OUTSIDE count(1)=2");
        edge("p becomes x times it: p at 1 then",
                "times()=0 count(1)=1 count(0)=NONE put(0,9972) 7*times() times()=9972 hand()=[0,0,0,0,0,0,0,0,9972]",
                ONE_TO_NINE + "put(8,0) times()=36 hand()=[0,1,2,3,4,5,6,7,8]");
        edge("NOT: p has x^8", "put(8,1) times()=NOT hand(8)=1 count(1)=1 put(8,0) times()=0 count(1)=3",
                "put(7,1) times()=1 times()=NOT hand()=[0,0,0,0,0,0,0,0,1] count(1)=2 undo()=1 times()=1");
    }

    private static void shiftedAndTold() {
        edge("p becomes as it is told by one ROW, told by another one: each sk of one is sk of the other: p at 0 then",
                FALLING + "read(3) put(8,1) swap(3,0)=0 hand()=[0,1,127,966,1701,1050,266,28,1] swap(0,3)=0"
                        + " hand()=[0,0,0,0,0,0,0,0,1] swap(0,3)=0 hand()=[0,-5040,13068,-13132,6769,-1960,322,-28,1]"
                        + " swap(3,3)=0 hand(8)=1 hand(1)=-5040",
                "'5;t' read(0) put(0,1) swap(0,1)=5 swap(1,0)=1 swap(0,0)=1 count(1)=4 put(0,0) swap(0,1)=0 count(0)=NONE",
                "put(0,1) swap(4,0)=UNKNOWN swap(0,4)=UNKNOWN swap(-1,-1)=UNKNOWN hand()=[1] count(1)=1");
        edge("p, told by a ROW, has each sk become the one behind it: p at 0 then",
                "climb(0)=0 count(0)=NONE count(1)=1 put(0,3) climb(0)=0 hand()=[0,3]",
                FALLING + "read(3) put(0,1) 8*climb(3)=0 hand()=[0,-5040,13068,-13132,6769,-1960,322,-28,1] climb(3)=NOT",
                "'1+t;t' read(0) put(0,1) climb(0)=-1 hand()=[-1,1]");
        edge("p, told by a ROW, has each sk become k times it: p at 0 then",
                "weigh(0)=0 count(1)=1 put(0,5) weigh(0)=0 count(0)=NONE put(8,1) weigh(0)=0 hand(8)=8 put(1,7) weigh(0)=0"
                        + " hand()=[0,7,0,0,0,0,0,0,64]",
                FALLING + "read(3) put(2,1) weigh(3)=0 hand()=[0,-1,2]",
                "put(0,5) weigh(4)=UNKNOWN weigh(-1)=UNKNOWN hand()=[5] count(1)=1");
    }

    private static void undone() {
        edge("(also one by which nothing became other; the last 8 can be)",
                "take(0,0)=1 take(0,0)=1 count(1)=2 undo()=1 hand()=[1] undo()=0 hand()=[0] undo()=NOT",
                "put(3,0)=0 count(1)=1 undo()=0 undo()=NOT", "plus(0,8,0)=0 count(1)=1 undo()=0 undo()=NOT",
                "act(0,0)=0 count(1)=1 undo()=0 undo()=NOT", "raise(0)=0 count(1)=1 undo()=0 undo()=NOT",
                "shift(0)=0 count(1)=1 undo()=0 undo()=NOT", "times()=0 count(1)=1 undo()=0 undo()=NOT",
                "swap(0,0)=0 count(1)=1 undo()=0 undo()=NOT", "climb(0)=0 count(1)=1 undo()=0 undo()=NOT",
                "weigh(0)=0 count(1)=1 undo()=0 undo()=NOT",
                "put(0,1) put(0,2) put(0,3) put(0,4) put(0,5) put(0,6) put(0,7) count(1)=7 put(0,8) count(1)=8 put(0,9)"
                        + " count(1)=8 undo()=7 hand(0)=8 undo()=6 hand(0)=7 undo()=5 hand(0)=6 undo()=4 hand(0)=5 undo()=3"
                        + " hand(0)=4 undo()=2 hand(0)=3 undo()=1 hand(0)=2 undo()=0 hand(0)=1 undo()=NOT hand(0)=1 count(1)=0",
                "8*times() undo()=7 7*undo() undo()=NOT", "20*put(0,1) put(0,2) 8*undo() undo()=NOT hand(0)=1",
                "put(0,1) put(0,2) put(0,3) undo()=2 undo()=1 put(0,7) put(0,8) count(1)=3 undo()=2 hand(0)=7 undo()=1"
                        + " hand(0)=1 undo()=0 hand(0)=0 undo()=NOT",
                "put(0,1) put(0,2) put(0,3) put(0,4) put(0,5) put(0,6) 3*undo() put(0,14) put(0,15) put(0,16) put(0,17)"
                        + " put(0,18) count(1)=8 put(0,19) count(1)=8 undo()=7 hand(0)=18 undo() hand(0)=17 undo() hand(0)=16"
                        + " undo() hand(0)=15 undo() hand(0)=14 undo() hand(0)=3 undo()=1 hand(0)=2 undo()=0 hand(0)=1 undo()=NOT");
        edge("The latest take(), put(), plus(), act(), raise(), shift(), times(), swap(), climb(), weigh() is undone, p is as"
                        + " it was ahead of it",
                oneUndone("take(1,5)"), oneUndone("put(8,9)"), oneUndone("plus(1,8,4)"), oneUndone("act(0,1)"),
                oneUndone("raise(0)"), oneUndone("shift(3)"), oneUndone("times()"), oneUndone("swap(0,1)"),
                oneUndone("climb(1)"), oneUndone("weigh(0)"),
                "put(0,1) '1;t+t^2' read(1) compose(2,1,1) invert(1,1) part(3,1,0) move(3,1,5) stretch(0,1,2) keep(0) hand(0)"
                        + " at(3) expand(0,0) sum(5) series(0,0,0) value(0,0,0) connect(0,1,2,2) differ(0,1) write(49) erase()"
                        + " fault() count(0) count(1)=1 undo()=0 hand()=[0] series(0,1,1)=1/2 back(0)=1 hand()=[1]",
                "put(0,1) put(9,9) put(0,9973) take(0,9) take(4,0) plus(0,9,0) act(0,3) shift(9973) swap(0,4) weigh(4)"
                        + " climb(4) raise(4) count(1)=1 put(8,1) raise(0)=NOT times()=NOT climb(0)=NOT count(1)=2 undo()=1"
                        + " hand()=[1] undo()=0 hand()=[0]");
        edge("how many can be undone yet. NOT: none", "undo()=NOT undo()=NOT count(1)=0 put(0,5)=0 undo()=0 undo()=NOT hand(0)=0",
                "put(0,5) keep(0)=1 put(0,6) back(0)=1 undo()=NOT hand(0)=5");
    }

    private static String oneUndone(String call) {
        return FALLING + "read(0)" + HERMITE + "read(1) put(0,6) put(1,5) put(7,4) put(3,3) " + call + " count(1)=5 undo()=4"
                + " hand()=[6,5,0,3,0,0,0,4] undo()=3 hand()=[6,5,0,0,0,0,0,4] " + call + " count(1)=4 undo()=3"
                + " hand()=[6,5,0,0,0,0,0,4]";
    }

    private static void askedOfHand() {
        edge("The NUMBER of x^k of p", ONE_TO_NINE + "hand()=[1,2,3,4,5,6,7,8,9] hand(-1)=OUTSIDE hand(9)=OUTSIDE count(1)=8");
        edge("p at a NUMBER x", ONE_TO_NINE + "at(0)=1 at(1)=45 at(9972)=5 at(10)=987654321 at(-1)=OUTSIDE at(9973)=OUTSIDE",
                "at(0)=0 at(9972)=0");
        edge("p is the sum of NUMBERS times s0 to s8 of a ROW: that of sk",
                FALLING + "read(3) expand(3)=[0] put(8,1) expand(3)=[0,1,127,966,1701,1050,266,28,1]"
                        + " expand(0)=[0,0,0,0,0,0,0,0,1] hand()=[0,0,0,0,0,0,0,0,1] count(1)=1",
                "'5;2*t' read(0) put(0,1) put(8,1) expand(0)=[5,0,0,0,0,0,0,0,1280]",
                "expand(0,-1)=OUTSIDE expand(0,9)=OUTSIDE expand(4,9)=UNKNOWN expand(-1,-1)=UNKNOWN");
        edge("p at 0, 1 and so on to m less 1, together (m 0 to 500)",
                "sum(0)=0 sum(500)=0 put(0,1) sum(0)=0 sum(1)=1 sum(499)=499 sum(500)=500 sum(501)=OUTSIDE sum(-1)=OUTSIDE",
                "put(1,1) sum(0)=0 sum(1)=0 sum(2)=1 sum(500)=124750 put(0,9972) sum(1)=9972 sum(2)=-1 sum(3)=0",
                "put(8,1) sum(3)=257 sum(4)=6818 hand()=[0,0,0,0,0,0,0,0,1] count(1)=1");
    }

    // ---- all

    private static void kept() {
        edge("All ROWS and p are kept (k 0, 1): how many NUMBERS of p are not 0",
                "keep(0)=0 keep(1)=0 put(8,9972) keep(0)=1 put(0,1) keep(1)=2 back(0)=1 hand()=[0,0,0,0,0,0,0,0,9972]"
                        + " back(1)=2 hand()=[1,0,0,0,0,0,0,0,9972]",
                ONE_TO_NINE + "keep(0)=9 count(1)=8 hand(8)=9 keep(-1)=OUTSIDE keep(2)=OUTSIDE",
                "put(0,1) keep(0)=1 put(0,2) keep(0)=1 put(0,3) back(0)=1 hand(0)=2 back(1)=NOT",
                "'2;t' read(0) '3;t' read(1) '1;4*t' read(2) '1;t+t^8' read(3) keep(1)=0 part(0,0,0) part(1,1,0) part(2,2,1)"
                        + " part(3,3,1) differ(0,3)=NONE back(1)=0 series(0,0)=[2] series(1,0)=[3] series(2,1)=[0,4]"
                        + " series(3,1)=[0,1,0,0,0,0,0,0,1] series(3,3,8)=-1 series(1,2,0)=1/3 polynomial(2,1)=[0,1/4]"
                        + " polynomial(0,8,8)=1/2");
        edge("They are as they were kept, nothing can be undone: as keep()",
                "put(0,1) keep(0)=1 put(0,2) put(0,3) back(0)=1 hand(0)=1 count(1)=0 undo()=NOT put(0,4) count(1)=1 back(0)=1"
                        + " hand(0)=1 undo()=NOT",
                "put(5,1) keep(1)=1 back(1)=1 count(1)=0 undo()=NOT hand(5)=1",
                "keep(0)=0 9*put(0,1) '1;t+t^2' read(0) back(0)=0 hand()=[0] count(1)=0 series(0,1)=[0,1] put(0,7) undo()=0"
                        + " hand(0)=0 undo()=NOT", "'1;t' keep(0)=0 erase()=3 'x' back(0)=0 count(2)=1 fault()=0",
                "'1;t+t^2' read(0) put(0,1) keep(0) move(0,0,3) put(1,1) keep(1) back(0)=1 series(0,0)=[1] back(1)=2"
                        + " series(0,0,1)=-3 back(0)=1 series(0,0)=[1] keep(1)=1 back(1)=1 hand()=[1]");
        edge("OUTSIDE; NOT: nothing was kept",
                "back(0)=NOT back(1)=NOT back(-1)=OUTSIDE back(2)=OUTSIDE put(0,1) keep(0)=1 back(1)=NOT count(1)=1 hand(0)=1",
                "put(0,1) keep(1)=1 back(0)=NOT count(1)=1 back(2)=OUTSIDE back(1)=1 back(0)=NOT");
    }

    private static void counted() {
        edge("0 the degree of p (NONE: it is 0)",
                "count(0)=NONE put(0,1) count(0)=0 put(1,9972) count(0)=1 put(8,1) count(0)=8 put(8,0) count(0)=1 put(7,1)"
                        + " count(0)=7 put(7,0) put(1,0) put(0,0) count(0)=NONE");
        edge("1 how many can be undone", "count(1)=0 7*times() count(1)=7 times() count(1)=8 times() count(1)=8 undo()=7"
                + " count(1)=7 7*undo() count(1)=0");
        edge("2 letters of THE TEXT", "count(2)=0 119*write(0) count(2)=119 write(0) count(2)=120 write(0) count(2)=120 erase()"
                + " count(2)=0");
        edge("3 to 6 the least k from 2 on by which f of ROW 0 to 3 has a NUMBER of t^k that is not 0 (NONE)",
                "'1+t^2;5*t' read(0) '1;t+9972*t^2' read(1) '1;t+t^8' read(2) '1;t+t^4+t^5' read(3) count(3)=NONE count(4)=2"
                        + " count(5)=8 count(6)=4",
                "'1;t+t^8' read(0) '1;t+t^7' read(3) count(3)=8 count(4)=NONE count(5)=NONE count(6)=7 '1;t+t^9' read(3)"
                        + " count(6)=NONE", "count(-1)=OUTSIDE count(7)=OUTSIDE count(-2147483648)=OUTSIDE count(2147483647)=OUTSIDE"
                        + " count(-2147483645)=OUTSIDE");
    }
}
