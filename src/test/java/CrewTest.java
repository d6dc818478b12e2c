/** Promises 33 to 45: lamps and outings, books, lots and shots; warnings, who knew them and who is late. */
final class CrewTest {
    public static void main(String[] args) {
        lamps();
        downAndUp();
        outings();
        books();
        hadLots();
        shotsFired();
        shotsBetween();
        shotsLimit();
        warningsRaised();
        telling();
        acting();
        knewWhen();
        lateOnes();
        lateByTexts();
        Due.end("CrewTest");
    }

    /** Two pits; hands 0 to 4 of pit 0, by duty; hands 5 to 9 of pit 1, by duty. */
    private static PitInspector office() {
        PitInspector x = new PitInspector();
        x.pit(0, 0, 10, 0);
        x.pit(1, 0, 20, 0);
        for (int h = 0; h < 10; h++) {
            x.hand(h / 5, h % 5);
        }
        return x;
    }

    private static void lamps() {
        PitInspector x = new PitInspector();
        Due.due("lot 10", x.lamp(10), -1);
        Due.due("lot -1", x.lamp(-1), -1);
        for (int l = 0; l < 60; l++) {
            Due.due("lamp " + l, x.lamp(l % 10), l);
        }
        Due.due("a 61st", x.lamp(0), -1);
        Due.due("sixty", x.count(10), 60);
    }

    private static void downAndUp() {
        PitInspector x = office();
        x.lamp(0);
        x.lamp(0);
        Due.due("up before down", x.up(0), false);
        Due.due("hand 10", x.down(10, -1), false);
        Due.due("hand -1", x.down(-1, -1), false);
        Due.due("lamp 2", x.down(0, 2), false);
        Due.due("lamp -2", x.down(0, -2), false);
        Due.due("none is an outing", x.count(11), 0);
        Due.due("down", x.down(0, 1), true);
        Due.due("is below", x.down(0, 0), false);
        Due.due("is below, without", x.down(0, -1), false);
        Due.due("lamp is out", x.down(1, 1), false);
        Due.due("lamp is out, another pit", x.down(5, 1), false);
        Due.due("the other lamp", x.down(5, 0), true);
        Due.due("without", x.down(6, -1), true);
        Due.due("below in 0", x.count(20), 1);
        Due.due("below in 1", x.count(21), 2);
        Due.due("up", x.up(0), true);
        Due.due("up again", x.up(0), false);
        Due.due("hand 10 up", x.up(10), false);
        Due.due("hand -1 up", x.up(-1), false);
        Due.due("lamp is back", x.down(1, 1), true);
        Due.due("three outings and one", x.count(11), 4);
        Due.due("below in 0 now", x.count(20), 1);
        Due.due("up without a lamp", x.up(6), true);
        Due.due("below in 1 now", x.count(21), 1);
        Due.act(x, "d(l=1)");
        Due.due("one lamp out in 0", x.holds(0, 0, 0), 1);
        Due.due("one lamp out in 1", x.holds(0, 0, 1), 1);
        x.up(5);
        Due.due("none out in 1", x.holds(0, 0, 1), 0);
    }

    private static void outings() {
        // more than 512 calls: forty hands cannot have 300 outings in fewer
        PitInspector x = office();
        for (int k = 0; k < 30; k++) {
            for (int h = 0; h < 10; h++) {
                x.down(h, -1);
            }
            for (int h = 0; h < 10 && k < 29; h++) {
                x.up(h);
            }
        }
        Due.due("three hundred", x.count(11), 300);
        Due.due("up still", x.up(0), true);
        Due.due("a 301st", x.down(0, -1), false);
        Due.due("nobody went", x.count(20), 4);
    }

    private static void books() {
        PitInspector x = office();
        Due.due("0 at first", x.differs(0), 0);
        Due.due("book", x.book(0, 2000), true);
        Due.due("differs", x.differs(0), -2000);
        x.down(0, -1);
        Due.due("one below", x.differs(0), -1999);
        Due.due("book of 1", x.differs(1), 0);
        Due.due("2001", x.book(0, 2001), false);
        Due.due("-1", x.book(0, -1), false);
        Due.due("pit 2", x.book(2, 0), false);
        Due.due("pit -1", x.book(-1, 0), false);
        Due.due("stays", x.differs(0), -1999);
        Due.due("book 0", x.book(0, 0), true);
        Due.due("differs by one", x.differs(0), 1);
        Due.due("pit 2 differs", x.differs(2), -100000);
        Due.due("pit -1 differs", x.differs(-1), -100000);
    }

    private static void hadLots() {
        PitInspector x = new PitInspector();
        x.pit(0, 0, 0, 0);
        for (int h = 0; h < 40; h++) {
            x.hand(0, 4);
        }
        for (int l = 0; l < 10; l++) {
            x.lamp(l / 5);
        }
        x.down(0, 0);
        x.down(19, 1);
        x.down(20, 2);
        x.down(39, 3);
        x.down(1, 5);
        x.down(2, -1);
        x.now(50);
        x.up(0);
        x.up(20);
        x.now(60);
        x.down(3, 0);
        x.up(3);
        Due.due("lot 0 since 0", x.had(0, 0, 0), 1 | 1 << 3 | 1 << 19);
        Due.due("lot 0 since 0, half 1", x.had(0, 0, 1), 1 | 1 << 19);
        Due.due("lot 0 since 50", x.had(0, 50, 0), 1 | 1 << 3 | 1 << 19);
        Due.due("lot 0 since 51", x.had(0, 51, 0), 1 << 3 | 1 << 19);
        Due.due("lot 0 since 51, half 1", x.had(0, 51, 1), 1 << 19);
        Due.due("lot 0 since 60", x.had(0, 60, 0), 1 << 3 | 1 << 19);
        Due.due("lot 1", x.had(1, 0, 0), 2);
        Due.due("lot 9", x.had(9, 0, 0), 0);
        x.now(61);
        Due.due("lot 0 since 61", x.had(0, 61, 0), 1 << 19);
        x.down(0, 0);
        Due.due("down again", x.had(0, 61, 0), 1 | 1 << 19);
        int[][] wrong = {{10, 0, 0}, {-1, 0, 0}, {0, 62, 0}, {0, -1, 0}, {0, 0, 2}, {0, 0, -1}};
        for (int[] w : wrong) {
            Due.due("no such lot", x.had(w[0], w[1], w[2]), -1);
        }
    }

    private static void shotsFired() {
        PitInspector x = office();
        Due.due("not below", x.shot(3), false);
        for (int h = 0; h < 10; h++) {
            x.down(h, -1);
        }
        for (int h = 0; h < 10; h++) {
            Due.due("shot by " + h, x.shot(h), h % 5 == 3);
        }
        Due.due("hand 10", x.shot(10), false);
        Due.due("hand -1", x.shot(-1), false);
        x.up(3);
        Due.due("up", x.shot(3), false);
        Due.due("two", x.count(12), 2);
    }

    private static void shotsBetween() {
        PitInspector x = office();
        x.down(3, -1);
        x.down(8, -1);
        int[] minutes = {0, 59, 60, 1439, 1440, 1440 + 120, 2 * 1440 + 23 * 60};
        for (int m : minutes) {
            x.now(m);
            x.shot(3);
        }
        x.shot(8);
        Due.due("all day", x.shots(0, 0, 24), 7);
        Due.due("first hour", x.shots(0, 0, 1), 3);
        Due.due("second", x.shots(0, 1, 2), 1);
        Due.due("two hours", x.shots(0, 1, 3), 2);
        Due.due("last hour", x.shots(0, 23, 24), 2);
        Due.due("none", x.shots(0, 3, 23), 0);
        Due.due("no hour", x.shots(0, 0, 0), 0);
        Due.due("24 to 24", x.shots(0, 24, 24), 0);
        Due.due("pit 1", x.shots(1, 0, 24), 1);
        int[][] wrong = {{2, 0, 1}, {-1, 0, 1}, {0, -1, 1}, {0, 0, 25}, {0, 25, 25}, {0, 5, 4}, {0, 24, 0}};
        for (int[] w : wrong) {
            Due.due("no such shots", x.shots(w[0], w[1], w[2]), -1);
        }
    }

    private static void shotsLimit() {
        PitInspector x = office();
        x.down(3, -1);
        for (int k = 0; k < 300; k++) {
            Due.due("shot", x.shot(3), true);
        }
        Due.due("a 301st", x.shot(3), false);
        Due.due("three hundred", x.shots(0, 0, 24), 300);
    }

    private static void warningsRaised() {
        PitInspector x = office();
        Due.due("hand 10", x.warn(10), -1);
        Due.due("hand -1", x.warn(-1), -1);
        for (int w = 0; w < 60; w++) {
            Due.due("warning " + w, x.warn(w % 10), w);
            Due.due("it is known", x.knew(w, 0, 0), 1 << w % 10);
        }
        Due.due("a 61st", x.warn(0), -1);
        Due.due("sixty", x.count(13), 60);
    }

    private static void telling() {
        PitInspector x = office();
        x.warn(4);
        x.warn(5);
        Due.due("tell", x.tell(0, 4, 0), true);
        Due.due("told already", x.tell(0, 4, 0), false);
        Due.due("back", x.tell(0, 0, 4), false);
        Due.due("oneself", x.tell(0, 4, 4), false);
        Due.due("who does not know", x.tell(0, 1, 2), false);
        Due.due("oneself who does not know", x.tell(0, 1, 1), false);
        Due.due("of another pit", x.tell(0, 4, 5), false);
        Due.due("by another pit's", x.tell(0, 5, 1), false);
        Due.due("of another warning", x.tell(1, 4, 3), false);
        Due.due("on", x.tell(0, 0, 1), true);
        Due.due("the other warning", x.tell(1, 5, 9), true);
        int[][] wrong = {{2, 4, 2}, {-1, 4, 2}, {0, 10, 2}, {0, -1, 2}, {0, 4, 10}, {0, 4, -1}};
        for (int[] w : wrong) {
            Due.due("no such ones", x.tell(w[0], w[1], w[2]), false);
        }
        Due.due("all who know 0", x.knew(0, 0, 0), 1 << 4 | 1 | 2);
        Due.due("all who know 1", x.knew(1, 0, 0), 1 << 5 | 1 << 9);
    }

    private static void acting() {
        PitInspector x = office();
        x.warn(4);
        Due.due("does not know", x.act(0, 0), false);
        Due.due("acts", x.act(0, 4), true);
        Due.due("has acted", x.act(0, 4), false);
        x.warn(4);
        Due.due("on another", x.act(1, 4), true);
        x.tell(0, 4, 0);
        Due.due("the next hand", x.act(0, 0), true);
        int[][] wrong = {{2, 4}, {-1, 4}, {0, 10}, {0, -1}};
        for (int[] w : wrong) {
            Due.due("no such ones", x.act(w[0], w[1]), false);
        }
    }

    private static void knewWhen() {
        PitInspector x = new PitInspector();
        x.pit(0, 0, 0, 0);
        for (int h = 0; h < 40; h++) {
            x.hand(0, 4);
        }
        x.now(10);
        x.warn(39);
        x.now(20);
        x.tell(0, 39, 0);
        x.now(30);
        x.tell(0, 0, 19);
        x.tell(0, 0, 20);
        int[] minutes = {0, 9, 10, 19, 20, 29, 30, 5000000};
        int[] low = {0, 0, 0, 0, 1, 1, 1 | 1 << 19, 1 | 1 << 19};
        int[] high = {0, 0, 1 << 19, 1 << 19, 1 << 19, 1 << 19, 1 | 1 << 19, 1 | 1 << 19};
        for (int k = 0; k < minutes.length; k++) {
            Due.due("knew at " + minutes[k], x.knew(0, minutes[k], 0), low[k]);
            Due.due("knew at " + minutes[k] + ", half 1", x.knew(0, minutes[k], 1), high[k]);
        }
        int[][] wrong = {{1, 0, 0}, {-1, 0, 0}, {0, -1, 0}, {0, 5000001, 0}, {0, 0, 2}, {0, 0, -1}};
        for (int[] w : wrong) {
            Due.due("no such ones", x.knew(w[0], w[1], w[2]), -1);
        }
    }

    private static void lateOnes() {
        PitInspector x = new PitInspector();
        x.pit(0, 0, 0, 0);
        for (int h = 0; h < 40; h++) {
            x.hand(0, h % 5);
        }
        x.now(100);
        x.warn(4);
        for (int h = 0; h < 4; h++) {
            x.tell(0, 4, h);
        }
        x.tell(0, 4, 35);
        x.now(150);
        x.tell(0, 4, 22);
        Due.due("no w: nobody", x.late(0, 0), 0);
        Due.act(x, "w(1=1)2");
        x.now(220);
        Due.due("not yet", x.late(0, 0), 0);
        x.now(221);
        Due.due("duties 0 to 2", x.late(0, 0), 7);
        Due.due("half 1", x.late(0, 1), 1 << 15);
        x.now(270);
        Due.due("half 1 not yet", x.late(0, 1), 1 << 15);
        x.now(271);
        Due.due("half 1 later", x.late(0, 1), 1 << 15 | 1 << 2);
        x.act(0, 1);
        x.act(0, 22);
        Due.due("one acted", x.late(0, 0), 5);
        Due.due("one of half 1 acted", x.late(0, 1), 1 << 15);
        int[][] wrong = {{1, 0}, {-1, 0}, {0, 2}, {0, -1}};
        for (int[] w : wrong) {
            Due.due("no such ones", x.late(w[0], w[1]), -1);
        }
        Due.act(x, "w(1=1)0");
        x.warn(0);
        Due.due("at once, but not in its minute", x.late(1, 0), 0);
        x.now(272);
        Due.due("at once", x.late(1, 0), 1);
        Due.act(x, "w(1=1)99999");
        x.now(5000000);
        Due.due("never", x.late(0, 0), 0);
    }

    private static void lateByTexts() {
        PitInspector x = office();
        x.warn(0);
        x.warn(5);
        x.now(90);
        Due.text(x, -1, 0, 0, "w(1=1)1;w(g=20)2;w(1/0=1)0");
        Due.due("the first", x.late(0, 0), 1);
        Due.due("the last whose C holds", x.late(1, 0), 0);
        Due.text(x, 1, 0, 0, "w(1=1)1");
        Due.due("its rules stand last", x.late(1, 0), 1 << 5);
        Due.text(x, 0, 0, 0, "w(1=1)2");
        Due.due("rules of the other", x.late(0, 0), 0);
        Due.due("not of this one", x.late(1, 0), 1 << 5);
        Due.text(x, -1, 0, 0, "x2.0;x1.0");
        Due.due("struck", x.late(0, 0), 1);
        Due.due("struck too", x.late(1, 0), 0);
        Due.text(x, -1, 0, 0, "w(1=1)1;w(1=2)5");
        Due.due("a later act", x.late(1, 0), 1 << 5);
        x.now(1440);
        Due.due("none in force", x.late(0, 0), 0);
        x.told(1, 0, 21);
        Due.text(x, -1, 1, 1, "w(b=1)1;w(g=21)20;w(g=22)9;f3");
        Due.due("C does not hold", x.late(0, 0), 0);
        Due.due("20 hours are over", x.late(1, 0), 1 << 5);
        x.down(0, -1);
        Due.due("now it holds", x.late(0, 0), 1);
    }
}
