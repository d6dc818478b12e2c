/** Promise 7: each fault at its last case that is none and its first that is one, wherever it can be. */
final class FaultsTest {
    private static final int CANNOT_STAND = 1;
    private static final int SIXTH_DIGIT = 2;
    private static final int CANNOT_BE = 3;
    private static final int CLAUSE_TOO_MANY = 4;
    private static final int OPEN_TOO_MANY = 5;

    public static void main(String[] args) {
        ends();
        signsAtEachPlace();
        digits();
        numbersOfTextsAndClauses();
        whichIsAskedFirst();
        clauses();
        open();
        openTillThePieceEnds();
        placesUpToTheEnd();
        Due.end("FaultsTest");
    }

    private static void none(String text) {
        PitInspector x = new PitInspector();
        Due.due("no fault in " + text, Due.act(x, text), 0);
        Due.due("a text by " + text, x.count(3), 1);
        Due.due("an empty tape by " + text, x.count(17), 0);
    }

    private static void fault(String text, int fault, int place) {
        PitInspector x = new PitInspector();
        Due.due("fault of " + text, Due.act(x, text), -1000 * fault - place);
        Due.due("no text by " + text, x.count(3), 0);
        Due.due("an empty tape by " + text, x.count(17), 0);
    }

    /** Whatever is cut off, the end can't stand there, but where a number of an f, a w or an x ends or a C is closed. */
    private static void ends() {
        String[] texts = {"d(g=1)", "n(!(g<[1+d]*2&s>3)|h=5)", "w(1=2)12345", "f123", "x12.11", "f1;x0.0;d(a=1)",
            "d((((((1=1))))))", "d(!!!!!1=1)", "d(1=[[[[[1]]]]])"};
        for (String text : texts) {
            none(text);
            for (int n = 1; n < text.length(); n++) {
                String cut = text.substring(0, n);
                if (cut.matches("(.*;)?(f\\d+|x\\d+\\.\\d+|w\\([^;]*\\)\\d+|[dn]\\([^;]*\\)+)") && closed(cut)) {
                    none(cut);
                } else {
                    fault(cut, CANNOT_STAND, n);
                }
            }
        }
    }

    private static boolean closed(String text) {
        int open = 0;
        for (char sign : text.toCharArray()) {
            open += sign == '(' ? 1 : sign == ')' ? -1 : 0;
        }
        return open == 0;
    }

    /** Of each place all signs that can stand there: with all others it is that place. */
    private static void signsAtEachPlace() {
        String letters = "sdgmbaowlhyq";
        String digits = "0123456789";
        String[][] heads = {{"", "dnwfx"}, {"f", digits}, {"f1", digits + ";"}, {"x", digits}, {"x1", digits + "."},
            {"x1.", digits}, {"x1.0", digits + ";"}, {"d", "("}, {"n", "("}, {"w", "("}, {"d(", "!([" + letters + digits},
            {"d(!", "!([" + letters + digits}, {"d((", "!([" + letters + digits}, {"d(g", "<>=+-*/%"},
            {"d(1", digits + "<>=+-*/%"}, {"d(g+", "[" + letters + digits}, {"d(g*", "[" + letters + digits},
            {"d([", "[" + letters + digits}, {"d([g", "+-*/%]"}, {"d([g]", "<>=+-*/%"}, {"d(g<", "[" + letters + digits},
            {"d(g=g", "+-*/%&|)"}, {"d(g=1", digits + "+-*/%&|)"}, {"d(g=[g]", "+-*/%&|)"}, {"d((g=g", "+-*/%&|)"},
            {"d((g=g)", "&|)"}, {"d(g=g&", "!([" + letters + digits}, {"d(g=g|", "!([" + letters + digits},
            {"d(g=g)", ";"}, {"w(g=g)", digits}, {"w(g=g)1", digits + ";"}, {"f1;", "dnwfx"}, {"d(g=g);", "dnwfx"}};
        for (String[] head : heads) {
            int place = head[0].length();
            for (int sign = 0; sign < 256; sign++) {
                String text = head[0] + (char) sign;
                PitInspector x = new PitInspector();
                int got = Due.act(x, text);
                boolean stands = head[1].indexOf((char) sign) >= 0;
                // what can stand there is no fault, or one of the next place: here the end
                boolean asDue = stands ? got == 0 || got == -1001 - place : got == -1000 - place;
                Due.due("sign " + sign + " behind " + head[0] + " answered " + got, asDue, true);
            }
        }
    }

    private static void digits() {
        String[][] numbers = {{"f", ""}, {"w(g=1)", ""}, {"d(g=", ")"}, {"d(", "=g)"}, {"n(g<[1+", "])"}, {"x", ".0"}, {"x0.", ""}};
        String noughts = "00000";
        for (String[] around : numbers) {
            fault(around[0] + around[1], CANNOT_STAND, around[0].length());
            for (int many = 1; many <= 5; many++) {
                none(around[0] + noughts.substring(0, many) + around[1]);
            }
            fault(around[0] + noughts + "0" + around[1], SIXTH_DIGIT, around[0].length() + 5);
            fault(around[0] + noughts + "9999" + around[1], SIXTH_DIGIT, around[0].length() + 5);
        }
        none("f99999");
        none("w(g=1)99999");
        none("d(g=99999)");
        fault("f100000", SIXTH_DIGIT, 6);
        fault("w(g=1)100000", SIXTH_DIGIT, 11);
        fault("d(g=100000)", SIXTH_DIGIT, 9);
    }

    private static void numbersOfTextsAndClauses() {
        for (int i = 0; i <= 29; i++) {
            none("x" + i + ".0");
        }
        for (int j = 0; j <= 11; j++) {
            none("x0." + j);
        }
        none("x29.11");
        none("x00029.00011");
        for (int i : new int[] {30, 31, 99, 100, 290, 99999}) {
            fault("x" + i + ".0", CANNOT_BE, 1);
        }
        for (int j : new int[] {12, 13, 20, 99, 110, 99999}) {
            fault("x0." + j, CANNOT_BE, 3);
            fault("x29." + j, CANNOT_BE, 4);
            fault("f1;x00029." + j + ";f1", CANNOT_BE, 10);
        }
        fault("x00030.0", CANNOT_BE, 1);
        fault("x0.00012", CANNOT_BE, 3);
    }

    private static void whichIsAskedFirst() {
        fault("x30", CANNOT_BE, 1);
        fault("x30;", CANNOT_BE, 1);
        fault("x30.12", CANNOT_BE, 1);
        fault("x30.", CANNOT_BE, 1);
        fault("x30q", CANNOT_BE, 1);
        fault("x300000", SIXTH_DIGIT, 6);
        fault("x0.120000", SIXTH_DIGIT, 8);
        fault("x0.12q", CANNOT_BE, 3);
        fault("x0.12.", CANNOT_BE, 3);
        fault("x0.12;f1000000", CANNOT_BE, 3);
        fault("f1q;x30.0", CANNOT_STAND, 2);
        fault("f100000q", SIXTH_DIGIT, 6);
        fault("d(((((((", OPEN_TOO_MANY, 7);
        fault("d((((((q=1))))))q", CANNOT_STAND, 16);
    }

    private static void clauses() {
        StringBuilder text = new StringBuilder("f1");
        for (int many = 1; many <= 12; many++) {
            none(text.toString());
            fault(text + ";", CANNOT_STAND, text.length() + 1);
            text.append(many < 12 ? ";f1" : "");
        }
        for (String more : new String[] {"d", "n", "w", "f", "x", "d(1=1)", "n(1=1)", "w(1=1)1", "f1", "x0.0", "x30.0", "f000000"}) {
            fault(text + ";" + more, CLAUSE_TOO_MANY, 36);
        }
        for (String more : new String[] {";", "q", "(", "1", " ", "D"}) {
            fault(text + ";" + more, CANNOT_STAND, 36);
        }
        fault(text + "d", CANNOT_STAND, 35);
        none("d(1=1);n(1=1);w(1=1)1;x0.0;d(1=1);n(1=1);w(1=1)1;x0.0;d(1=1);n(1=1);w(1=1)1;x0.0");
        fault("d(1=1);n(1=1);w(1=1)1;x0.0;d(1=1);n(1=1);w(1=1)1;x0.0;d(1=1);n(1=1);w(1=1)1;x0.0;f1", CLAUSE_TOO_MANY, 81);
    }

    /** All rows of ( and ! and behind them some [ : with that of the clause six are taken, of a seventh no kind is. */
    private static void open() {
        for (int outer = 0; outer <= 6; outer++) {
            for (int bits = 0; bits < 1 << outer; bits++) {
                StringBuilder head = new StringBuilder();
                StringBuilder tail = new StringBuilder();
                for (int k = 0; k < outer; k++) {
                    boolean not = (bits >> k & 1) != 0;
                    head.append(not ? '!' : '(');
                    tail.append(not ? "" : ")");
                }
                if (outer == 6) {
                    fault("d(" + head + "1=1" + tail + ")", OPEN_TOO_MANY, 7);
                    continue;
                }
                none("n(" + head + "1=1" + tail + ")");
                int room = 5 - outer;
                String inner = "[[[[[[".substring(0, room);
                String closing = "]]]]]]".substring(0, room);
                none("d(" + head + inner + "1" + closing + "=1" + tail + ")");
                none("d(" + head + "1=1+" + inner + "1" + closing + tail + ")");
                fault("d(" + head + inner + "[1]" + closing + "=1" + tail + ")", OPEN_TOO_MANY, 7);
                fault("d(" + head + "1=" + inner + "[1]" + closing + tail + ")", OPEN_TOO_MANY, 9);
            }
        }
    }

    private static void openTillThePieceEnds() {
        none("d(!!!!!1=1&!!!!!1=1|!!!!!1=1)");
        none("d(!!!!!1=1&(((((1=1))))))");
        none("d(!!!!!1=1|[[[[[1]]]]]=1)");
        none("d((!1=1&!!!!1=1)&!!!!!1=1)");
        none("d(!(!(!1=1)&!(!1=1))&(((((1=1))))))");
        none("d(!!!!1=[1]+[1]*[1])");
        none("d([1]+[[1]+[[1]+[[1]+[1]]]]=1)");
        none("d([1]+[[1]+[[1]+[[1]+[[1]]]]]=1)");
        fault("d([1]+[[1]+[[1]+[[1]+[[[1]]]]]]=1)", OPEN_TOO_MANY, 23);
        fault("d(!!!!!1=[1])", OPEN_TOO_MANY, 9);
        fault("d(!!!!!1=1+1*[1])", OPEN_TOO_MANY, 13);
        fault("d(!!!!![1]=1)", OPEN_TOO_MANY, 7);
        fault("d(!!!!([1]=1)&1=1)", OPEN_TOO_MANY, 7);
        fault("d(!!!!(1=1&!1=1))", OPEN_TOO_MANY, 11);
        fault("d(!!!!(1=1)&!!!!!(1=1))", OPEN_TOO_MANY, 17);
        none("f1;d((((((1=1)&(1=1))|!!1=1))))");
        fault("f1;d((((((1=1)&(1=1))|!!!1=1))))", OPEN_TOO_MANY, 24);
    }

    private static void placesUpToTheEnd() {
        StringBuilder head = new StringBuilder("d(1");
        while (head.length() < 157) {
            head.append("+1");
        }
        none(head + "=1)");
        fault(head + "=1", CANNOT_STAND, 159);
        fault(head + "=1+", CANNOT_STAND, 160);
        fault(head + "=1]", CANNOT_STAND, 159);
        fault(head + "==1", CANNOT_STAND, 158);
        StringBuilder fines = new StringBuilder("n(");
        while (fines.length() < 154) {
            fines.append("1=1&");
        }
        none(fines + "1=001)");
        none(fines.substring(0, 150) + "1=1);x9.11");
        fault(fines.substring(0, 150) + "1=1);x9.12", CANNOT_BE, 158);
        none(fines.substring(0, 146) + "(((((1=1))))))");
        fault(fines.substring(0, 146) + "(((((1=1)))))|", CANNOT_STAND, 160);
        fault(fines.substring(0, 146) + "(((((!1=1)))))", OPEN_TOO_MANY, 151);
        fault(fines + "000000", SIXTH_DIGIT, 159);
        fault(fines + "00000", CANNOT_STAND, 159);
        fault(fines + "00000=", CANNOT_STAND, 160);
    }
}
