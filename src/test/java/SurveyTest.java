/** Promises 24 to 32: plans and their shifts, old water and faces, yards, what moves bring near, and joins. */
final class SurveyTest {
    public static void main(String[] args) {
        plans();
        shifts();
        waters();
        faces();
        turns();
        yardsAndDoubt();
        nearestOnes();
        movesOfPlans();
        joins();
        tornJoins();
        Due.end("SurveyTest");
    }

    private static PitInspector office() {
        PitInspector x = new PitInspector();
        x.pit(0, 0, 0, 0);
        x.pit(0, 0, 0, 0);
        return x;
    }

    private static void plans() {
        PitInspector x = new PitInspector();
        int[][] wrong = {{-1, 0, 0, 0}, {1001, 0, 0, 0}, {0, -1, 0, 0}, {0, 4, 0, 0}, {0, 0, -100001, 0},
            {0, 0, 100001, 0}, {0, 0, 0, -100001}, {0, 0, 0, 100001}, {0, 0, Integer.MIN_VALUE, 0}};
        for (int[] w : wrong) {
            Due.due("wrong plan", x.plan(w[0], w[1], w[2], w[3]), -1);
        }
        Due.due("none yet", x.count(6), 0);
        Due.due("greatest", x.plan(1000, 3, 100000, 100000), 0);
        Due.due("least", x.plan(0, 0, -100000, -100000), 1);
        for (int k = 2; k < 15; k++) {
            Due.due("plan " + k, x.plan(0, 0, 0, 0), k);
        }
        Due.due("a 16th", x.plan(0, 0, 0, 0), -1);
        Due.due("fifteen", x.count(6), 15);
    }

    private static void shifts() {
        PitInspector x = office();
        x.plan(0, 0, 0, 0);
        x.plan(0, 0, 0, 0);
        x.water(0, 0, 0);
        x.face(0, 1, 0, 0);
        Due.due("shift", x.shift(1, 30, -40), true);
        Due.due("far", x.yards(0, 0, 0), 40);
        int[][] wrong = {{2, 0, 0}, {-1, 0, 0}, {1, 100001, 0}, {1, -100001, 0}, {1, 0, 100001}, {1, 0, -100001}};
        for (int[] w : wrong) {
            Due.due("wrong shift", x.shift(w[0], w[1], w[2]), false);
        }
        Due.due("far still", x.yards(0, 0, 0), 40);
        Due.due("the greatest", x.shift(1, 100000, -100000), true);
        Due.due("and that of the other", x.shift(0, -100000, 99999), true);
        Due.due("very far", x.yards(0, 0, 0), 200000);
    }

    private static void waters() {
        PitInspector x = new PitInspector();
        Due.due("no plan", x.water(0, 0, 0), -1);
        x.plan(0, 0, 0, 0);
        Due.due("plan 1", x.water(1, 0, 0), -1);
        Due.due("plan -1", x.water(-1, 0, 0), -1);
        Due.due("x", x.water(0, 100001, 0), -1);
        Due.due("y", x.water(0, 0, -100001), -1);
        for (int v = 0; v < 30; v++) {
            Due.due("water " + v, x.water(0, 100000, -100000), v);
        }
        Due.due("a 31st", x.water(0, 0, 0), -1);
        Due.due("thirty", x.count(7), 30);
    }

    private static void faces() {
        PitInspector x = office();
        Due.due("no plan", x.face(0, 0, 0, 0), -1);
        x.plan(0, 0, 0, 0);
        Due.due("pit 2", x.face(2, 0, 0, 0), -1);
        Due.due("pit -1", x.face(-1, 0, 0, 0), -1);
        Due.due("plan 1", x.face(0, 1, 0, 0), -1);
        Due.due("plan -1", x.face(0, -1, 0, 0), -1);
        Due.due("x", x.face(0, 0, -100001, 0), -1);
        Due.due("y", x.face(0, 0, 0, 100001), -1);
        for (int f = 0; f < 30; f++) {
            Due.due("face " + f, x.face(f % 2, 0, -100000, 100000), f);
        }
        Due.due("a 31st", x.face(0, 0, 0, 0), -1);
        Due.due("thirty", x.count(8), 30);
    }

    private static void turns() {
        int[][] trueAt = {{3, 10}, {-10, 3}, {-3, -10}, {10, -3}};
        for (int turn = 0; turn < 4; turn++) {
            PitInspector x = office();
            x.plan(0, 0, 0, 0);
            x.plan(0, turn, 1000, 2000);
            x.face(0, 1, 3, 10);
            x.water(0, trueAt[turn][0] + 1000, trueAt[turn][1] + 2000);
            x.water(0, trueAt[turn][0] + 1007, trueAt[turn][1] + 2000);
            x.water(0, trueAt[turn][0] + 1000, trueAt[turn][1] + 1991);
            x.water(0, trueAt[turn][0] + 1011, trueAt[turn][1] + 2005);
            int[] want = {0, 7, 9, 11};
            for (int v = 0; v < 4; v++) {
                Due.due("turn " + turn + ", water " + v, x.yards(0, v, 0), want[v]);
            }
            x.shift(1, 0, 0);
            x.water(0, trueAt[turn][0], trueAt[turn][1]);
            Due.due("turned about 0, 0, turn " + turn, x.yards(0, 4, 0), 0);
        }
    }

    private static void yardsAndDoubt() {
        PitInspector x = office();
        x.plan(10, 0, 0, 0);
        x.plan(20, 0, 0, 0);
        x.face(0, 0, 0, 0);
        x.face(0, 1, 0, 0);
        x.face(0, 1, 0, 100);
        x.water(0, 35, 0);
        x.water(1, 0, -5);
        Due.due("of the third, least", x.yards(2, 0, 0), 70);
        Due.due("of the third, most", x.yards(2, 0, 1), 130);
        int[][][] want = {{{25, 45}, {0, 35}}, {{5, 65}, {0, 25}}};
        for (int f = 0; f < 2; f++) {
            for (int v = 0; v < 2; v++) {
                Due.due("least yards", x.yards(f, v, 0), want[f][v][0]);
                Due.due("most yards", x.yards(f, v, 1), want[f][v][1]);
            }
        }
        int[][] wrong = {{3, 0, 0}, {-1, 0, 0}, {0, 2, 0}, {0, -1, 0}, {0, 0, 2}, {0, 0, -1}};
        for (int[] w : wrong) {
            Due.due("no such yards", x.yards(w[0], w[1], w[2]), -1);
        }
    }

    private static void nearestOnes() {
        PitInspector x = office();
        Due.due("no face", x.nearest(0, false), -1);
        Due.due("pit without", x.nearest(0, true), 99999);
        Due.due("pit 2", x.nearest(2, true), -1);
        Due.due("pit -1", x.nearest(-1, true), -1);
        x.plan(0, 0, 0, 0);
        x.face(0, 0, 0, 0);
        x.face(0, 0, 100, 0);
        x.face(1, 0, -100000, 0);
        Due.due("no water", x.nearest(0, false), 99999);
        Due.due("pit, no water", x.nearest(0, true), 99999);
        x.water(0, 100000, 0);
        Due.due("farther than that", x.nearest(0, false), 100000);
        Due.due("pit 0", x.nearest(0, true), 99900);
        Due.due("pit 1", x.nearest(1, true), 200000);
        x.water(0, 70, 0);
        Due.due("the nearer", x.nearest(0, false), 70);
        Due.due("of face 1", x.nearest(1, false), 30);
        Due.due("of pit 0", x.nearest(0, true), 30);
        Due.due("face 3", x.nearest(3, false), -1);
        Due.due("face -1", x.nearest(-1, false), -1);
        Due.due("face 2 is one, pit 2 is none", x.nearest(2, false) == 100070 && x.nearest(2, true) == -1, true);
    }

    private static void movesOfPlans() {
        PitInspector x = office();
        x.plan(0, 0, 0, 0);
        x.plan(0, 0, 1000, 0);
        Due.due("no faces", x.moves(0, 5, 5, 100), 0);
        for (int f = 0; f < 30; f++) {
            x.face(f % 2, 0, 100 * f, 0);
        }
        Due.due("no water", x.moves(0, 5, 5, 99999), 0);
        x.water(1, 0, 0);
        Due.due("near 11", x.moves(1, 1100, 0, 100), 1 << 11);
        Due.due("near 10 to 12, but 10 is", x.moves(1, 1100, 0, 101), 1 << 12);
        Due.due("all but those that are", x.moves(1, 2900, 0, 1001), 0x3FFFFFFF & ~((1 << 21) - 1));
        Due.due("the last", x.moves(1, 2950, 0, 51), 1 << 29);
        Due.due("faces move too", x.moves(0, 1000, 0, 1), 1);
        Due.due("none comes near", x.moves(1, 1000, 1000, 99), 0);
        Due.due("all stays", x.nearest(10, false), 0);
        Due.due("all stays of 0", x.nearest(0, false), 1000);
        int[][] wrong = {{2, 0, 0, 5}, {-1, 0, 0, 5}, {0, 100001, 0, 5}, {0, -100001, 0, 5}, {0, 0, 100001, 5},
            {0, 0, -100001, 5}, {0, 0, 0, 0}, {0, 0, 0, 100000}, {0, 0, 0, -1}};
        for (int[] w : wrong) {
            Due.due("no such moves", x.moves(w[0], w[1], w[2], w[3]), -1);
        }
        Due.due("as many yards as can be", x.moves(0, 0, 0, 99999), 0);
    }

    private static void joins() {
        PitInspector x = new PitInspector();
        x.plan(0, 0, 0, 0);
        x.plan(0, 0, 0, 0);
        int[][] wrong = {{0, 0, 0, 0, 0, 0, 0}, {2, 0, 0, 0, 0, 0, 0}, {0, 0, 0, 2, 0, 0, 0}, {-1, 0, 0, 0, 0, 0, 0},
            {0, 0, 0, -1, 0, 0, 0}, {0, 100001, 0, 1, 0, 0, 0}, {0, 0, -100001, 1, 0, 0, 0},
            {0, 0, 0, 1, -100001, 0, 0}, {0, 0, 0, 1, 0, 100001, 0}, {0, 0, 0, 1, 0, 0, -1},
            {0, 0, 0, 1, 0, 0, 1001}};
        for (int[] w : wrong) {
            Due.due("wrong join", x.join(w[0], w[1], w[2], w[3], w[4], w[5], w[6]), -1);
        }
        Due.due("none yet", x.count(9), 0);
        for (int j = 0; j < 30; j++) {
            Due.due("join " + j, x.join(1, 100000, -100000, 0, 100000, -100000, 1000), j);
        }
        Due.due("a 31st", x.join(0, 0, 0, 1, 0, 0, 0), -1);
        Due.due("thirty", x.count(9), 30);
        Due.due("all hold", x.torn(), -1);
    }

    private static void tornJoins() {
        PitInspector x = new PitInspector();
        Due.due("no joins", x.torn(), -1);
        x.plan(10, 0, 0, 0);
        x.plan(20, 1, 5, 5);
        x.join(0, 0, 0, 1, 0, 0, 3);
        x.join(0, -5, 15, 1, 10, 10, 0);
        x.join(1, 0, 0, 0, 5, 38, 3);
        Due.due("all hold", x.torn(), -1);
        x.join(1, 0, 0, 0, 5, 39, 3);
        Due.due("one yard too far", x.torn(), 3);
        x.shift(1, 36, 5);
        Due.due("by the shift", x.torn(), 0);
        x.shift(1, 33, 5);
        Due.due("the first that is torn", x.torn(), 3);
        x.shift(1, 26, 5);
        Due.due("by y alone", x.torn(), 3);
        x.shift(1, 5, 6);
        Due.due("nearer", x.torn(), -1);
        x = office();
        x.plan(0, 0, 0, 0);
        x.plan(0, 0, 0, 0);
        for (int k = 0; k < 30; k++) {
            x.water(0, k, 1000);
            x.face(0, 1, k, 2000);
            x.join(0, k, 3000 + k, 1, k, 3001 + k, 1);
        }
        Due.due("as many as can be, all hold", x.torn(), -1);
        Due.due("face 29 to water 0", x.yards(29, 0, 0), 1000);
        Due.due("face 0 to water 29", x.yards(0, 29, 1), 1000);
        x.shift(1, 0, 1);
        Due.due("and none holds", x.torn(), 0);
    }
}
