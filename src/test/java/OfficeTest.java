/** Promises 1 to 5, 56 and 57: a new office, its minutes, pits and hands, and what is told of them. */
final class OfficeTest {
    public static void main(String[] args) {
        newObject();
        minutes();
        pits();
        toldOf();
        hands();
        aboutHands();
        counted();
        Due.end("OfficeTest");
    }

    private static void newObject() {
        PitInspector x = new PitInspector();
        for (int what = 0; what <= 17; what++) {
            Due.due("new count(" + what + ")", x.count(what), 0);
        }
        Due.due("new NONE", PitInspector.NONE, -1);
        x.pit(0, 0, 0, 0);
        x.pit(0, 0, 0, 0);
        x.send(2, 0, 0);
        Due.due("one inspector", x.look(1, 1), 0);
        Due.due("no text", x.counts(0, 0), -1);
        Due.due("no plan", x.water(0, 0, 0), -1);
    }

    private static void minutes() {
        PitInspector x = new PitInspector();
        Due.due("now(-1)", x.now(-1), false);
        Due.due("now(0)", x.now(0), true);
        Due.due("now(10)", x.now(10), true);
        Due.due("now(10) again", x.now(10), true);
        Due.due("now(9) is past", x.now(9), false);
        Due.due("stays 10", x.count(0), 10);
        Due.due("now(5000001)", x.now(5000001), false);
        Due.due("now(5000000)", x.now(5000000), true);
        Due.due("now(MAX)", x.now(Integer.MAX_VALUE), false);
        Due.due("last", x.count(0), 5000000);
    }

    private static void pits() {
        PitInspector x = new PitInspector();
        int[][] wrong = {{-1, 0, 0, 0}, {8, 0, 0, 0}, {0, -1, 0, 0}, {0, 2001, 0, 0},
            {0, 0, -1, 0}, {0, 0, 101, 0}, {0, 0, 0, -1}, {0, 0, 0, 2001}};
        for (int[] w : wrong) {
            Due.due("wrong pit", x.pit(w[0], w[1], w[2], w[3]), -1);
        }
        Due.due("none yet", x.count(1), 0);
        Due.due("greatest", x.pit(7, 2000, 100, 2000), 0);
        for (int p = 1; p < 12; p++) {
            Due.due("pit " + p, x.pit(0, 0, 0, 0), p);
        }
        Due.due("a 13th", x.pit(0, 0, 0, 0), -1);
        Due.due("twelve", x.count(1), 12);
        Due.due("worth of the greatest", x.worth(0), 300);
        Due.act(x, "d(s=7&d=2000&g=100&m=2000)");
        Due.due("its letters", x.holds(0, 0, 0), 1);
        Due.due("letters of another", x.holds(0, 0, 11), 0);
    }

    private static void toldOf() {
        PitInspector x = new PitInspector();
        Due.due("no pit", x.told(0, 0, 0), false);
        x.pit(0, 0, 0, 0);
        x.pit(0, 0, 0, 0);
        Due.act(x, "d(g=100);d(m=2000);d(g=0);d(m=0)");
        Due.due("gas", x.told(0, 0, 100), true);
        Due.due("men", x.told(0, 1, 2000), true);
        Due.due("gas is 100", x.holds(0, 0, 0), 1);
        Due.due("men are 2000", x.holds(0, 1, 0), 1);
        Due.due("gas of 1", x.holds(0, 2, 1), 1);
        Due.due("men of 1", x.holds(0, 3, 1), 1);
        Due.due("gas 101", x.told(0, 0, 101), false);
        Due.due("gas -1", x.told(0, 0, -1), false);
        Due.due("men 2001", x.told(0, 1, 2001), false);
        Due.due("men -1", x.told(0, 1, -1), false);
        Due.due("what 2", x.told(0, 2, 0), false);
        Due.due("what -1", x.told(0, -1, 0), false);
        Due.due("pit 2", x.told(2, 0, 0), false);
        Due.due("pit -1", x.told(-1, 0, 0), false);
        Due.due("gas stays", x.holds(0, 0, 0), 1);
        Due.due("men stay", x.holds(0, 1, 0), 1);
        Due.due("gas 0", x.told(0, 0, 0), true);
        Due.due("gas is 0", x.holds(0, 2, 0), 1);
    }

    private static void hands() {
        PitInspector x = new PitInspector();
        Due.due("no pit", x.hand(0, 0), -1);
        x.pit(0, 0, 0, 0);
        Due.due("duty 5", x.hand(0, 5), -1);
        Due.due("duty -1", x.hand(0, -1), -1);
        Due.due("pit 1", x.hand(1, 0), -1);
        Due.due("pit -1", x.hand(-1, 0), -1);
        for (int h = 0; h < 40; h++) {
            Due.due("hand " + h, x.hand(0, h % 5), h);
        }
        Due.due("a 41st", x.hand(0, 0), -1);
        Due.due("forty", x.count(2), 40);
    }

    private static void aboutHands() {
        PitInspector x = new PitInspector();
        x.pit(0, 0, 0, 0);
        x.pit(0, 0, 0, 0);
        x.hand(1, 3);
        x.hand(0, 4);
        x.lamp(0);
        x.lamp(0);
        Due.due("pit", x.about(0, 0), 1);
        Due.due("duty", x.about(0, 1), 3);
        Due.due("not below", x.about(0, 2), 0);
        Due.due("no lamp", x.about(0, 3), -1);
        x.down(0, 1);
        x.down(1, -1);
        Due.due("below", x.about(0, 2), 1);
        Due.due("lamp", x.about(0, 3), 1);
        Due.due("below without", x.about(1, 2), 1);
        Due.due("without", x.about(1, 3), -1);
        x.up(0);
        Due.due("up", x.about(0, 2), 0);
        Due.due("lamp is back", x.about(0, 3), -1);
        Due.due("what 4", x.about(0, 4), -1);
        Due.due("what -1", x.about(0, -1), -1);
        Due.due("hand 2", x.about(2, 0), -1);
        Due.due("hand -1", x.about(-1, 0), -1);
    }

    private static void counted() {
        PitInspector x = new PitInspector();
        x.now(7);
        for (int p = 0; p < 2; p++) {
            x.pit(0, 0, 0, 0);
        }
        for (int h = 0; h < 3; h++) {
            x.hand(1, 3);
        }
        for (int t = 0; t < 4; t++) {
            Due.act(x, "f1");
        }
        for (int place = 0; place < 5; place++) {
            x.place(1);
        }
        for (int r = 0; r < 6; r++) {
            x.road(0, 1, 1, false);
        }
        for (int k = 0; k < 7; k++) {
            x.plan(0, 0, 0, 0);
        }
        for (int v = 0; v < 8; v++) {
            x.water(0, 0, 0);
        }
        for (int f = 0; f < 9; f++) {
            x.face(0, 0, 0, 0);
        }
        for (int j = 0; j < 10; j++) {
            x.join(0, 0, 0, 1, 0, 0, 0);
        }
        for (int l = 0; l < 11; l++) {
            x.lamp(0);
        }
        for (int o = 0; o < 12; o++) {
            x.down(0, 0);
            if (o < 11) {
                x.up(0);
            }
        }
        for (int s = 0; s < 13; s++) {
            x.shot(0);
        }
        for (int w = 0; w < 14; w++) {
            x.warn(0);
        }
        for (int f = 0; f < 15; f++) {
            x.fall(0);
        }
        x.send(2, 0, 0);
        x.seen(0, 0, 0);
        x.seen(0, 0, 0);
        x.feed(0, 0, 0, 0, 0);
        int[] want = {7, 2, 3, 4, 5, 6, 7, 8, 9, 10, 11, 12, 13, 14, 15, 2, 2, 20};
        for (int what = 0; what < want.length; what++) {
            Due.due("count(" + what + ")", x.count(what), want[what]);
        }
        int[] none = {-1, 18, 19, 22, 31, 32, Integer.MIN_VALUE, Integer.MAX_VALUE};
        for (int what : none) {
            Due.due("count(" + what + ")", x.count(what), -1);
        }
        Due.due("below in 0", x.count(20), 0);
        Due.due("below in 1", x.count(21), 1);
        Due.due("book differs by it", x.differs(1), 1);
    }
}
