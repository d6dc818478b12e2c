/** Promises 6 to 13: the tape, texts with their faults, what counts, holds, is broken and fined, and rules within acts. */
final class TextsTest {
    public static void main(String[] args) {
        tape();
        textsRefused();
        faultsThatCannotStand();
        otherFaults();
        textsWithoutFault();
        textsAfterFaults();
        limitOfTexts();
        fullOffice();
        arithmetic();
        conditions();
        asMuchAsMatters();
        letters();
        force();
        striking();
        holding();
        brokenAndFined();
        withinActs();
        Due.end("TextsTest");
    }

    private static PitInspector office() {
        PitInspector x = new PitInspector();
        x.pit(3, 400, 20, 100);
        x.pit(5, 150, 0, 7);
        return x;
    }

    private static void tape() {
        PitInspector x = new PitInspector();
        for (int n = 1; n <= 8; n++) {
            Due.due("feed " + n, x.feed(0x66313B66, 0x323B6633, 0x3B66343B, 0x66353B66, 0x363B6637), 20 * n);
        }
        Due.due("a 161st byte", x.feed(0, 0, 0, 0, 0), -1);
        Due.due("tape stays", x.count(17), 160);
        Due.due("bytes in order", x.text(-1, 0, 0, 20), 0);
        Due.due("seven clauses", x.holds(0, 6, 0), -1);
        x.pit(0, 0, 0, 0);
        Due.due("7th clause", x.holds(0, 6, 0), 1);
        Due.due("no 8th", x.holds(0, 7, 0), -1);
        Due.due("empty then", x.count(17), 0);
        Due.due("high bytes", x.feed(0x66313BFF, -1, -1, -1, -1), 20);
        Due.due("a byte of 255", x.text(-1, 0, 0, 4), -1003);
        Due.due("empty after a fault", x.count(17), 0);
    }

    private static void textsRefused() {
        PitInspector x = office();
        Due.feed(x, "f1");
        int[][] wrong = {{2, 0, 0, 2}, {-2, 0, 0, 2}, {-1, -1, 0, 2}, {-1, 0, 3473, 2}, {-1, 3473, 3473, 2},
            {-1, 5, 4, 2}, {-1, 0, 0, 0}, {-1, 0, 0, -1}, {-1, 0, 0, 21}, {-1, 0, 0, 161},
            {Integer.MIN_VALUE, 0, 0, 2}, {-1, 0, 0, Integer.MAX_VALUE}};
        for (int[] w : wrong) {
            Due.due("refused text", x.text(w[0], w[1], w[2], w[3]), -1);
            Due.due("tape stays", x.count(17), 20);
        }
        Due.due("last day", x.text(1, 3472, 3472, 2), 0);
        Due.due("nothing on the tape", x.text(-1, 0, 0, 1), -1);
        Due.due("one text", x.count(3), 1);
    }

    private static void fault(String text, int want) {
        PitInspector x = office();
        Due.due(text, Due.act(x, text), want);
        Due.due("texts after " + text, x.count(3), want < 0 ? 0 : 1);
        Due.due("tape after " + text, x.count(17), 0);
    }

    private static void faultsThatCannotStand() {
        fault(" ", -1000);
        fault(";", -1000);
        fault("D(g=1)", -1000);
        fault("d", -1001);
        fault("d[g=1]", -1001);
        fault("d()", -1002);
        fault("d(g", -1003);
        fault("d(g=", -1004);
        fault("d(g=1", -1005);
        fault("d(g==1)", -1004);
        fault("d(g<1=1)", -1005);
        fault("d(g)", -1003);
        fault("d(g =1)", -1003);
        fault("d(g5=1)", -1003);
        fault("d(5g=1)", -1003);
        fault("d(+g=1)", -1002);
        fault("d(g+=1)", -1004);
        fault("d(g*-1=1)", -1004);
        fault("d(-1=1)", -1002);
        fault("d(g=1&)", -1006);
        fault("d(g=1||g=1)", -1006);
        fault("d(|g=1)", -1002);
        fault("d(g=1))", -1006);
        fault("d(g=1)5", -1006);
        fault("d(g=1)d(g=1)", -1006);
        fault("d(g=1);", -1007);
        fault("d(g=1);;f1", -1007);
        fault("d((g=1)", -1007);
        fault("d((g)=1)", -1004);
        fault("d([g=1])", -1004);
        fault("d([g)=1)", -1004);
        fault("d([]=1)", -1003);
        fault("d((g=1)=1)", -1007);
        fault("d((g=1)+1=1)", -1007);
        fault("d([g]g=1)", -1005);
        fault("d(g(=1)", -1003);
        fault("d(g=(1))", -1004);
        fault("d(g=!1)", -1004);
        fault("d(g!=1)", -1003);
        fault("d(!)", -1003);
        fault("d(c=1)", -1002);
        fault("d(G=1)", -1002);
        fault("d(g=1|f)", -1006);
        fault("w(g=1)", -1006);
        fault("w(g=1);", -1006);
        fault("w(g=1)d", -1006);
        fault("w(g=1)5d", -1007);
        fault("n", -1001);
        fault("n5", -1001);
        fault("w5", -1001);
        fault("f", -1001);
        fault("fg", -1001);
        fault("f-1", -1001);
        fault("f1g", -1002);
        fault("f1.1", -1002);
        fault("x", -1001);
        fault("x.1", -1001);
        fault("x1", -1002);
        fault("x1;", -1002);
        fault("x1.", -1003);
        fault("x1.;", -1003);
        fault("x1.1.", -1004);
        fault("x1.1g", -1004);
        fault("d(" + (char) 231 + "=1)", -1002);
        fault("d(g=1" + (char) 169 + ")", -1005);
        fault("f1" + (char) 0, -1002);
    }

    private static void otherFaults() {
        fault("f99999", 0);
        fault("f100000", -2006);
        fault("f000001", -2006);
        fault("f00000g", -1006);
        fault("d(g=00000)", 0);
        fault("d(g=000000)", -2009);
        fault("d(123456=g)", -2007);
        fault("w(g=1)99999", 0);
        fault("w(g=1)000000", -2011);
        fault("x29.11", 0);
        fault("x00029.00011", 0);
        fault("x30.0", -3001);
        fault("x0.12", -3003);
        fault("x30", -3001);
        fault("x30g", -3001);
        fault("x99999.99999", -3001);
        fault("x99999", -3001);
        fault("x300000.0", -2006);
        fault("x0.12g", -3003);
        fault("x0.99999", -3003);
        fault("x0.120000", -2008);
        fault("x0.12;q", -3003);
        String twelve = "f1;f1;f1;f1;f1;f1;f1;f1;f1;f1;f1;f1";
        fault(twelve, 0);
        fault(twelve + ";", -1036);
        fault(twelve + ";q", -1036);
        for (String letter : new String[] {"d", "n", "w", "f", "x"}) {
            fault(twelve + ";" + letter, -4036);
        }
        fault("d((((((g=1))))))", 0);
        fault("d(((((((g=1)))))))", -5007);
        fault("d((((((!g=1))))))", -5007);
        fault("d(((((([g]=1))))))", -5007);
        fault("d((((([g]=1)))))", 0);
        fault("d([[[[[g]]]]]=1)", 0);
        fault("d([[[[[[g]]]]]]=1)", -5007);
        fault("d(g=[[[[[[g]]]]]])", -5009);
        fault("d(!!!!!g=1)", 0);
        fault("d(!!!!!!g=1)", -5007);
        fault("d(!!!!!g=1&!!!!!g=1)", 0);
        fault("d(!!!!!g=1|(((((g=1))))))", 0);
        fault("d(!!!!!g=[1])", -5009);
        fault("d(!!!!!(g=1))", -5007);
        fault("d(!!!!(!g=1))", -5007);
        fault("d(!!!!(g=1)&!!!!!g=1)", 0);
        fault("d((((((g=1)&[g]=1)))))", 0);
        fault("d((((((g=1&[g]=1))))))", -5011);
        fault("d((((((g=1!", -1010);
        fault("d((((((g=1(", -1010);
        fault("d((((((g[", -1008);
        fault("d((((((g=(", -1009);
    }

    private static void textsWithoutFault() {
        fault("d(g=1)", 0);
        fault("n(g<1&m>2|s=3)", 0);
        fault("d(s+d-g*m/b%a=o+w+l+h+y+q)", 0);
        fault("w(!(g=1|g=2)&[g+1]*2>5)0", 0);
        fault("f0", 0);
        fault("d(1=1);n(1=2);w(1=1)3;f4;x5.6", 0);
        StringBuilder longest = new StringBuilder("d(1");
        while (longest.length() < 157) {
            longest.append("+1");
        }
        longest.append("=1)");
        fault(longest.toString(), 0);
        fault(longest.toString().replace("=1)", "=1;"), -1000 - 159);
    }

    /** A fault leaves nothing behind for the next text. */
    private static void textsAfterFaults() {
        PitInspector x = office();
        StringBuilder all = new StringBuilder("n(1=1");
        while (all.length() < 155) {
            all.append("&1=1");
        }
        for (int k = 0; k < 5; k++) {
            Due.due("no end", Due.act(x, all.toString()), -1000 - all.length());
        }
        Due.due("no fault", Due.act(x, all + ")"), 0);
        Due.due("it holds", x.holds(0, 0, 0), 1);
        Due.due("twelve with a fault", Due.act(x, "f1;f1;f1;f1;f1;f1;f1;f1;f1;f1;f1;f1;"), -1036);
        Due.due("one", Due.act(x, "f1"), 1);
        Due.due("it has one clause", x.counts(1, 0), 1);
    }

    /** As many texts, clauses and broken ones as can be. */
    private static void fullOffice() {
        PitInspector x = office();
        String twelve = "n(1=1);n(1=1);n(1=1);n(1=1);n(1=1);n(1=1);n(1=1);n(1=1);n(1=1);n(1=1);n(1=1);n(1=1)";
        for (int i = 0; i < 30; i++) {
            Due.due("text " + i, Due.text(x, i % 2 == 0 ? -1 : 0, 0, 9, twelve), i);
        }
        Due.due("all broken", x.broken(0), 360);
        Due.due("the last text", x.brokenAt(0, 359, 0), 29);
        Due.due("the last clause", x.brokenAt(0, 359, 1), 11);
        Due.due("none behind", x.brokenAt(0, 360, 0), -1);
        Due.due("acts alone", x.broken(1), 180);
        Due.due("their last text", x.brokenAt(1, 179, 0), 28);
        Due.due("worth", x.worth(1), 15 + 20 * 180);
        Due.due("nothing to pay", x.fine(0), 0);
        Due.due("within", x.within(29), 1);
    }

    private static void limitOfTexts() {
        PitInspector x = office();
        for (int i = 0; i < 30; i++) {
            Due.due("text " + i, Due.act(x, "f1"), i);
        }
        Due.due("a 31st", Due.act(x, "f1"), -1);
        Due.due("tape stays", x.count(17), 20);
        Due.due("a 31st with a fault", x.text(-1, 0, 0, 20), -1);
        Due.due("thirty", x.count(3), 30);
        Due.due("of the last one", x.counts(29, 0), 1);
    }

    /** Whether a condition holds for pit 0 of office(). */
    private static void holds(String condition, int want) {
        PitInspector x = office();
        Due.due("no fault in " + condition, Due.act(x, "d(" + condition + ")"), 0);
        Due.due(condition, x.holds(0, 0, 0), want);
        Due.due("broken " + condition, x.broken(0), want == 1 ? 0 : 1);
    }

    private static void arithmetic() {
        holds("1+2*3=7", 1);
        holds("[1+2]*3=9", 1);
        holds("10-3-2=5", 1);
        holds("10-[3-2]=9", 1);
        holds("100/7/2=7", 1);
        holds("100/7*7=98", 1);
        holds("7*100/7=100", 1);
        holds("17%5*2=4", 1);
        holds("2*17%5=4", 1);
        holds("1-2=0-1", 1);
        holds("[0-7]/2=0-3", 1);
        holds("[0-7]%2=0-1", 1);
        holds("7%[0-2]=1", 1);
        holds("1-2-3<0-3", 1);
        holds("2<1", 0);
        holds("1<1", 0);
        holds("1>1", 0);
        holds("2>1", 1);
        holds("1=2", 0);
        holds("00007=7", 1);
        holds("99999*99999/99999=99999", 1);
        String most = "99999*99999*99999";
        holds(most + ">0", 1);
        holds(most + "*99999<0", LONG_CUBE * 99999 < 0 ? 1 : 0);
        holds(most + "*99999%10000=" + (LONG_CUBE * 99999 % 10000 < 0 ? "0-" : "")
            + Math.abs(LONG_CUBE * 99999 % 10000), 1);
        holds("[0-32768]*32768*32768*32768*8/[0-1]<0", 1);
        holds("[0-32768]*32768*32768*32768*8%[0-1]=0", 1);
    }

    private static final long LONG_CUBE = 99999L * 99999L * 99999L;

    private static void conditions() {
        holds("1=1|1=2", 1);
        holds("1=2|1=1", 1);
        holds("1=2|1=2", 0);
        holds("1=1&1=2", 0);
        holds("1=1&1=1", 1);
        holds("1=2&1=1|1=1", 1);
        holds("1=1|1=1&1=2", 1);
        holds("[1]=1&(1=2|1=1)", 1);
        holds("(1=1|1=1)&1=2", 0);
        holds("!1=2", 1);
        holds("!1=1", 0);
        holds("!!1=1", 1);
        holds("!1<2", 0);
        holds("!2>1", 0);
        holds("!!1<2", 1);
        holds("!1=2&1=2", 0);
        holds("!1=1|1=1", 1);
        holds("!(1=2&1=2)", 1);
        holds("!(1=1|1=2)", 0);
        holds("(((((1=1)))))", 1);
        holds("1=1&1=1&1=2|1=2|1=1&(1=2|!(1=2|1=2))", 1);
    }

    private static void asMuchAsMatters() {
        holds("1/0=1", 2);
        holds("1%0=1", 2);
        holds("0/0=0", 2);
        holds("1=1|1/0=1", 1);
        holds("1/0=1|1=1", 2);
        holds("1=2&1/0=1", 0);
        holds("1/0=1&1=2", 2);
        holds("1=1&1/0=1", 2);
        holds("1=2|1/0=1", 2);
        holds("1=2&1/0=1|1=1", 1);
        holds("1=2&1/0=1|1/0=1", 2);
        holds("!1/0=1", 2);
        holds("!(1=1|1/0=1)", 0);
        holds("!(1=2&1/0=1)", 1);
        holds("(1=2&1/0=1)|!(1=1|1/0=1)|1=1", 1);
        holds("(1=1|1/0=1)&(1=2|1/0=1)", 2);
        holds("1=[1-1]*[1/0]", 2);
        holds("1=2&(1=1|1=1)&1/0=1", 0);
    }

    private static void letters() {
        PitInspector x = new PitInspector();
        x.pit(1, 2, 3, 4);
        x.pit(0, 0, 0, 0);
        x.now(1440 * 2 + 60 * 7 + 5);
        Due.act(x, "d(s=1);d(d=2);d(g=3);d(m=4);d(b=0);d(a=0-1);d(o=0-1);d(w=99999);d(l=0);d(h=7);d(y=2);d(q=0)");
        for (int j = 0; j < 12; j++) {
            Due.due("letter " + j, x.holds(0, j, 0), 1);
        }
        x.place(0);
        x.place(0);
        x.road(0, 1, 1, false);
        x.road(0, 1, 1, false);
        x.road(0, 1, 1, false);
        x.fan(0, 0, 1, 18);
        x.plan(0, 0, 0, 0);
        x.water(0, 0, 0);
        x.face(0, 0, 8, 0);
        x.lamp(0);
        x.lamp(0);
        for (int h = 0; h < 5; h++) {
            x.hand(h / 3, 3);
            x.down(h, h % 2 == 0 ? h / 2 : -1);
        }
        x.shot(0);
        x.shot(3);
        x.shot(1);
        Due.act(x, "d(b=3);d(a=6);d(o=3);d(w=8);d(l=2);d(q=2)");
        for (int j = 0; j < 6; j++) {
            Due.due("letter of the second text " + j, x.holds(1, j, 0), 1);
        }
        x.now(1440 * 3 + 60 * 7 + 4);
        Due.due("shots of the day's last minute", x.holds(1, 5, 0), 1);
        x.now(1440 * 3 + 60 * 7 + 5);
        Due.due("shots of a day ago", x.holds(0, 11, 0), 1);
        String[] dear = {"a=0-1", "o=0-1", "w=99999", "q=0", "a+a=0-2", "o+o=0-2", "w-w=0", "q+q=0"};
        for (String condition : dear) {
            x = office();
            Due.due("no fault", Due.act(x, "n(" + condition + ")"), 0);
            Due.due(condition + " alone", x.holds(0, 0, 0), 1);
            Due.due(condition + " alone is broken", x.broken(1), 1);
        }
        for (String condition : new String[] {"a=4", "o=1", "w=3", "q=1", "a+a=8", "o+o=2", "w+w=6", "q+q=2"}) {
            x = office();
            x.place(0);
            x.place(0);
            x.road(0, 1, 1, false);
            x.fan(0, 0, 1, 4);
            x.plan(0, 0, 0, 0);
            x.water(0, 0, 0);
            x.face(0, 0, 3, 0);
            x.hand(0, 3);
            x.down(0, -1);
            x.shot(0);
            Due.act(x, "d(" + condition + ")");
            Due.due(condition, x.holds(0, 0, 0), 1);
            Due.due(condition + " of the other pit", x.holds(0, 0, 1), 0);
        }
    }

    private static void force() {
        PitInspector x = office();
        Due.due("act", Due.text(x, -1, 1, 2, "n(1=1)"), 0);
        Due.due("rules", Due.text(x, 1, 2, 3, "n(1=1);n(1=1)"), 1);
        int[][] want = {{0, 0, 0}, {1, 0, 1}, {1, 2, 3}, {0, 2, 2}, {0, 0, 0}};
        for (int day = 0; day < want.length; day++) {
            x.now(day * 1440 + 1439);
            Due.due("act counts for 0, day " + day, x.counts(0, 0), want[day][0]);
            Due.due("rules count for 1, day " + day, x.counts(1, 1), want[day][1]);
            Due.due("rules never count for 0, day " + day, x.counts(1, 0), 0);
            Due.due("broken by 1, day " + day, x.broken(1), want[day][2]);
            Due.due("broken by 0, day " + day, x.broken(0), want[day][0]);
            Due.due("holds, in force or not, day " + day, x.holds(0, 0, 0), 1);
            Due.due("holds for another pit, day " + day, x.holds(1, 0, 0), 1);
        }
        int[][] wrong = {{2, 0}, {-1, 0}, {0, 2}, {0, -1}};
        for (int[] w : wrong) {
            Due.due("no such counts", x.counts(w[0], w[1]), -1);
        }
    }

    private static void striking() {
        PitInspector x = office();
        Due.act(x, "f1;f2;x0.0;x1.0;x0.1");
        Due.due("strikes neither itself nor a higher one", x.counts(0, 0), 5);
        Due.rules(x, 0, "f3;f4;x0.0");
        Due.due("rules do not strike acts", x.counts(0, 0), 5);
        Due.rules(x, 1, "x1.0;f5;f6");
        Due.due("nor rules of another pit", x.counts(1, 0), 3);
        Due.rules(x, 0, "x1.0;x1.11");
        Due.due("but their own", x.counts(1, 0), 2);
        Due.act(x, "x3.0;x0.1;x2.1");
        Due.due("an act strikes an x", x.counts(3, 0), 1);
        Due.due("which then strikes no more", x.counts(1, 0), 3);
        Due.due("act strikes act", x.counts(0, 0), 4);
        Due.due("act strikes rules", x.counts(2, 1), 2);
        Due.act(x, "x4.0;x4.1;x29.0");
        Due.due("struck x counts not", x.counts(4, 0), 1);
        Due.due("so rules strike again", x.counts(1, 0), 2);
        Due.due("and the act stands", x.counts(0, 0), 5);
        Due.due("the highest counts whole", x.counts(5, 0), 3);
        x = office();
        Due.act(x, "f1");
        Due.text(x, -1, 1, 1, "x0.0");
        Due.due("an x not in force", x.counts(0, 0), 1);
        x.now(1440);
        Due.due("an x in force", x.counts(0, 0), 0);
        x.now(2880);
        Due.due("an x no more in force", x.counts(0, 0), 1);
        x = office();
        Due.act(x, "f1");
        Due.rules(x, 0, "x0.0");
        Due.act(x, "x1.0;x0.0");
        Due.due("struck for pit 1 too", x.counts(0, 1), 0);
        Due.due("rules for none but 0", x.counts(1, 1), 0);
        x = office();
        Due.act(x, "f1;f2");
        Due.act(x, "x0.0;x0.0;x0.00");
        Due.act(x, "x0.0");
        Due.due("struck again and again", x.counts(0, 0), 1);
    }

    private static void holding() {
        PitInspector x = office();
        Due.act(x, "d(g=20);n(g=20);w(g=20)1;f1;x0.0;d(1/0=1);n(1/0=1);w(1/0=1)1");
        int[] of0 = {1, 1, 1, 1, 1, 2, 2, 2, -1};
        int[] of1 = {0, 0, 0, 1, 1, 2, 2, 2, -1};
        for (int j = 0; j < of0.length; j++) {
            Due.due("holds " + j + " for 0", x.holds(0, j, 0), of0[j]);
            Due.due("holds " + j + " for 1", x.holds(0, j, 1), of1[j]);
        }
        Due.due("clause -1", x.holds(0, -1, 0), -1);
        Due.due("text 1", x.holds(1, 0, 0), -1);
        Due.due("text -1", x.holds(-1, 0, 0), -1);
        Due.due("pit 2", x.holds(0, 0, 2), -1);
        Due.due("pit -1", x.holds(0, 0, -1), -1);
    }

    private static void brokenAndFined() {
        PitInspector x = office();
        Due.act(x, "d(g=1);n(g=20);w(g=20)1;d(1/0=1);n(1/0=1);w(1/0=1)1;d(g=20);n(g=1);f7;f3");
        Due.rules(x, 0, "n(1=1);f99999;f10");
        Due.act(x, "d(1=2);x1.2");
        Due.rules(x, 1, "d(1=2);f5");
        int[][] want = {{0, 0}, {0, 1}, {0, 3}, {0, 4}, {1, 0}, {2, 0}};
        Due.due("broken", x.broken(0), want.length);
        for (int k = 0; k < want.length; k++) {
            Due.due("text of broken " + k, x.brokenAt(0, k, 0), want[k][0]);
            Due.due("clause of broken " + k, x.brokenAt(0, k, 1), want[k][1]);
        }
        Due.due("fine", x.fine(0), 4 * 3 + 99999);
        Due.due("worth", x.worth(0), 20 + 40 + 20 * 6);
        Due.due("broken by 1", x.broken(1), 6);
        Due.due("last one of 1", x.brokenAt(1, 5, 0), 3);
        Due.due("fine of 1", x.fine(1), 4 * 3 + 5);
        Due.due("k too great", x.brokenAt(0, 6, 0), -1);
        Due.due("k -1", x.brokenAt(0, -1, 0), -1);
        Due.due("what 2", x.brokenAt(0, 0, 2), -1);
        Due.due("what -1", x.brokenAt(0, 0, -1), -1);
        for (int p : new int[] {2, -1, 12, Integer.MAX_VALUE}) {
            Due.due("broken by none", x.broken(p), -1);
            Due.due("brokenAt of none", x.brokenAt(p, 0, 0), -1);
            Due.due("fine of none", x.fine(p), -1);
            Due.due("worth of none", x.worth(p), -1);
        }
        Due.act(x, "x0.9");
        Due.due("an f that is struck fines not", x.fine(0), 4 * 7 + 99999);
        Due.act(x, "x0.8");
        Due.due("no f that counts", x.fine(0), 99999);
        x = office();
        Due.act(x, "f9;n(1=1)");
        Due.due("an f ahead of it", x.fine(0), 9);
        Due.act(x, "n(1=1);n(1=1);f4");
        Due.due("each by its own text", x.fine(0), 9 + 2 * 4);
    }

    private static void withinActs() {
        PitInspector x = office();
        Due.text(x, -1, 1, 2, "d(g=1);n(g=2);w(g=3)1");
        Due.rules(x, 0, "n(g=1)");
        Due.rules(x, 0, "f1;d(g=2)");
        Due.rules(x, 1, "d(g=1);n(g=2);d(g=3);n(g=3);w(g=1)1;w(g=2)1;n(g=01);d((g=2));n(g=1&1=1)");
        Due.rules(x, 0, "f1;x0.0");
        Due.text(x, 0, 9, 9, "n(g=1)");
        int[] rules = {1, 2, 3, 4, 5};
        int[] inForce = {0, 0, 1, 1, 0};
        for (int day = 0; day < 4; day++) {
            x.now(1440 * day);
            for (int k = 0; k < rules.length; k++) {
                int want = day == 1 || day == 2 ? inForce[k] : 1;
                Due.due("within(" + rules[k] + ") on day " + day, x.within(rules[k]), want);
            }
        }
        Due.rules(x, 1, "d(h=0)");
        Due.rules(x, 0, "n(h=0)");
        Due.due("rules are not asked of rules", x.within(7), 1);
        Due.due("an act", x.within(0), -1);
        Due.due("text 8", x.within(8), -1);
        Due.due("text -1", x.within(-1), -1);
        Due.act(x, "d(q=1);n(h=0)");
        Due.due("a later act", x.within(6), 0);
        x = office();
        Due.act(x, "n(s=1);d(g=1)");
        Due.rules(x, 0, "d(g=1);n(s=1);d(g=1&s=1);n(g=2)");
        Due.due("another first byte, another last one", x.within(1), 1);
    }
}
