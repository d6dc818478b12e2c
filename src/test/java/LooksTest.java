/** Promises 46 to 55: falls beyond chance; inspectors, worth and looks; what was seen and can all be. */
final class LooksTest {
    public static void main(String[] args) {
        falls();
        beyondChance();
        inspectorsAndWorth();
        sendRefused();
        sentByWorth();
        drawn();
        drawsEnd();
        whoLooks();
        seenRows();
        paces();
        judged();
        theMost();
        Due.end("LooksTest");
    }

    private static void falls() {
        PitInspector x = new PitInspector();
        Due.due("no pit", x.fall(0), false);
        x.pit(0, 0, 0, 0);
        Due.due("pit 1", x.fall(1), false);
        Due.due("pit -1", x.fall(-1), false);
        for (int k = 0; k < 200; k++) {
            Due.due("fall", x.fall(0), true);
        }
        Due.due("a 201st", x.fall(0), false);
        Due.due("two hundred", x.count(14), 200);
    }

    private static void beyondChance() {
        PitInspector x = new PitInspector();
        Due.due("no pits", x.beyond(7), 0);
        Due.due("seam 8", x.beyond(8), -1);
        Due.due("seam -1", x.beyond(-1), -1);
        x.pit(1, 0, 0, 100);
        x.pit(1, 0, 0, 150);
        x.pit(2, 0, 0, 750);
        Due.due("no falls", x.beyond(1), 0);
        // M 1000, m 250: with F falls, all of seam 1, it is beyond if (750 F)^2 > 4 F 250 1000, F > 1.77
        x.fall(0);
        Due.due("one fall", x.beyond(1), 0);
        x.fall(1);
        Due.due("two falls in both pits", x.beyond(1), 1);
        Due.due("the other seam", x.beyond(2), 0);
        x.told(0, 1, 101);
        Due.due("men as they are now", x.beyond(1), 1);
        x.told(0, 1, 2000);
        Due.due("many men", x.beyond(1), 0);
        Due.due("a seam without pits", x.beyond(3), 0);
        x = new PitInspector();
        x.pit(0, 0, 0, 1);
        x.pit(1, 0, 0, 1);
        // F = 4, f = 4: 4 * 2 - 4 = 4, 16 > 4 * 4 * 1 * 2 is not; F = 8: 8, 64 > 64 is not; F = 9: 9, 81 > 72
        for (int k = 0; k < 8; k++) {
            x.fall(0);
            Due.due("falls " + (k + 1), x.beyond(0), 0);
        }
        x.fall(0);
        Due.due("nine", x.beyond(0), 1);
        Due.due("too few is not beyond", x.beyond(1), 0);
        x = new PitInspector();
        x.pit(0, 0, 0, 0);
        x.pit(1, 0, 0, 10);
        x.fall(0);
        Due.due("a fall without men", x.beyond(0), 1);
        x.told(1, 1, 1);
        Due.due("by one", x.beyond(0), 1);
        x.told(1, 1, 0);
        Due.due("no men at all", x.beyond(0), 0);
        x = new PitInspector();
        for (int p = 0; p < 12; p++) {
            x.pit(p == 0 ? 0 : 1, 0, 0, 2000);
        }
        for (int k = 0; k < 200; k++) {
            x.fall(0);
        }
        Due.due("the greatest numbers", x.beyond(0), 1);
        Due.due("the greatest numbers, other seam", x.beyond(1), 0);
    }

    private static void inspectorsAndWorth() {
        PitInspector x = new PitInspector();
        for (int n : new int[] {0, -1, 17, Integer.MAX_VALUE}) {
            Due.due("no such number", x.inspectors(n), false);
        }
        Due.due("1", x.inspectors(1), true);
        Due.due("16", x.inspectors(16), true);
        x.pit(0, 999, 7, 0);
        Due.due("depth is rounded down", x.worth(0), 106);
        Due.act(x, "n(1=1);d(1=2);d(1/0=1);d(1=1)");
        Due.due("20 for each broken", x.worth(0), 166);
        Due.due("pit 1", x.worth(1), -1);
        Due.due("pit -1", x.worth(-1), -1);
    }

    private static PitInspector office(int... gas) {
        PitInspector x = new PitInspector();
        for (int g : gas) {
            x.pit(0, 0, g, 0);
        }
        return x;
    }

    private static void looks(PitInspector x, int what, int... want) {
        for (int k = 0; k < want.length; k++) {
            Due.due("look(" + k + ", " + what + ")", x.look(k, what), want[k]);
        }
        Due.due("no more looks", x.look(want.length, what), -1);
        Due.due("count of looks", x.count(15), want.length);
    }

    private static void sendRefused() {
        PitInspector x = new PitInspector();
        Due.due("no pits", x.send(1, 0, 0), -1);
        x = office(1, 2, 3);
        x.send(2, 0, 0);
        int[][] wrong = {{0, 0, 0}, {4, 0, 0}, {-1, 0, 0}, {1, -1, 0}, {1, 101, 0}, {1, 0, -1}, {1, 0, 134456}};
        for (int[] w : wrong) {
            Due.due("refused", x.send(w[0], w[1], w[2]), -1);
        }
        looks(x, 0, 2, 1);
        Due.due("k -1", x.look(-1, 0), -1);
        Due.due("what 2", x.look(0, 2), -1);
        Due.due("what -1", x.look(0, -1), -1);
        Due.due("the greatest", x.send(3, 100, 134455), 3);
    }

    private static void sentByWorth() {
        PitInspector x = office(5, 9, 5, 9, 1);
        Due.due("none drawn", x.send(5, 19, 0), 0);
        looks(x, 0, 1, 3, 0, 2, 4);
        Due.due("again", x.send(2, 0, 0), 0);
        looks(x, 0, 1, 3);
        Due.rules(x, 4, "n(1=1)");
        x.send(3, 0, 0);
        looks(x, 0, 4, 1, 3);
    }

    private static void drawn() {
        // from 0 on X becomes 28411, 28378, 29409, 65948, 58583 ...
        long at = 0;
        int[] xs = new int[5];
        for (int k = 0; k < 5; k++) {
            at = (8121 * at + 28411) % 134456;
            xs[k] = (int) at;
        }
        int pits = 7;
        int first = xs[0] % pits;
        PitInspector x = office(0, 0, 0, 0, 0, 0, 0);
        Due.due("one of 2", x.send(2, 50, 0), 1);
        looks(x, 0, first, first == 0 ? 1 : 0);
        Due.due("one of 3, rounded down", x.send(3, 66, 0), 1);
        Due.due("the drawn one first", x.look(0, 0), first);
        Due.due("all of 7", x.send(7, 100, 134455), 7);
        int[] seen = new int[7];
        for (int k = 0; k < 7; k++) {
            seen[x.look(k, 0)]++;
        }
        for (int p = 0; p < 7; p++) {
            Due.due("each once", seen[p], 1);
        }
        Due.due("first of the greatest seed", x.look(0, 0),
            (int) ((8121L * 134455L + 28411L) % 134456L % 7L));
    }

    /** Of 12 pits not all are drawn in 60 times by some seeds. */
    private static void drawsEnd() {
        int ended = 0;
        for (int seed = 0; seed < 6000; seed++) {
            PitInspector x = office(0, 0, 0, 0, 0, 0, 0, 0, 0, 0, 0, 0);
            int bits = 0;
            long at = seed;
            for (int times = 0; times < 60; times++) {
                at = (8121 * at + 28411) % 134456;
                bits |= 1 << (int) (at % 12);
            }
            int want = Integer.bitCount(bits);
            Due.due("drawn by seed " + seed, x.send(12, 100, seed), want);
            Due.due("all are sent", x.count(15), 12);
            for (int k = want; k < 12; k++) {
                Due.due("not drawn before", bits >> x.look(k, 0) & 1, 0);
            }
            ended += want < 12 ? 1 : 0;
        }
        Due.due("some seeds end so", ended > 0, true);
    }

    private static void whoLooks() {
        PitInspector x = office(9, 8, 7, 6);
        x.inspectors(3);
        x.send(4, 0, 0);
        looks(x, 1, 0, 1, 2, 0);
        x.send(4, 0, 0);
        looks(x, 1, 1, 2, 0, 1);
        x.send(4, 0, 0);
        looks(x, 1, 0, 1, 2, 0);
        x.inspectors(1);
        x.send(4, 0, 0);
        looks(x, 1, 0, 0, 0, 0);
        x.send(4, 0, 0);
        looks(x, 1, 0, 0, 0, 0);
        x.inspectors(2);
        x.send(4, 0, 0);
        looks(x, 1, 1, 1, 1, 1);
        x.inspectors(16);
        x.send(2, 0, 0);
        looks(x, 1, 0, 2);
        x.inspectors(2);
        x.send(2, 0, 0);
        looks(x, 1, 1, 1);
        Due.due("refused", x.send(5, 0, 0), -1);
        looks(x, 1, 1, 1);
        x.send(1, 0, 0);
        looks(x, 1, 0);
        x = office(9, 8);
        x.inspectors(2);
        x.send(2, 100, 0);
        int last = x.look(1, 0);
        x.told(last, 0, 100);
        x.send(1, 0, 0);
        looks(x, 0, last);
        looks(x, 1, 0);
    }

    /** Pit 0: places 0 - 1 - 2 in a row (0 - 1 by a shut door), 3 apart; hands 0, 1 of pit 0, hand 2 of pit 1. */
    private static PitInspector scene() {
        PitInspector x = new PitInspector();
        x.pit(0, 0, 0, 0);
        x.pit(0, 0, 0, 0);
        x.hand(0, 4);
        x.hand(0, 4);
        x.hand(1, 4);
        for (int k = 0; k < 4; k++) {
            x.place(0);
        }
        x.place(1);
        x.road(0, 1, 1, true);
        x.road(1, 2, 1, false);
        x.now(1000);
        return x;
    }

    private static void seenRows() {
        PitInspector x = scene();
        int[][] wrong = {{3, 0, 0}, {-1, 0, 0}, {0, 5, 0}, {0, -1, 0}, {0, 4, 0}, {2, 0, 0}, {0, 0, 1001}, {0, 0, -1}};
        for (int[] w : wrong) {
            Due.due("wrong row", x.seen(w[0], w[1], w[2]), -1);
        }
        Due.due("none yet", x.count(16), 0);
        Due.due("nothing seen", x.most(), 0);
        for (int k = 0; k < 16; k++) {
            Due.due("row " + k, x.seen(k % 3, k % 3 == 2 ? 4 : 0, k == 0 ? 1000 : 0), k);
        }
        Due.due("a 17th", x.seen(0, 0, 0), -1);
        Due.due("sixteen", x.count(16), 16);
        Due.due("all can be", x.most(), 65535);
        Due.due("all are judged so", x.judge(65535), 1);
        Due.due("one more is none", x.judge(65536), -1);
        Due.due("negative is none", x.judge(-1), -1);
        Due.due("the least int is none", x.judge(Integer.MIN_VALUE), -1);
    }

    private static void paces() {
        PitInspector x = scene();
        for (int n : new int[] {0, -1, 61}) {
            Due.due("no such pace", x.pace(n), false);
        }
        x.seen(0, 0, 0);
        x.seen(0, 1, 5);
        x.seen(1, 0, 0);
        x.seen(1, 1, 4);
        Due.due("5 at first", x.judge(3), 1);
        Due.due("4 are too few", x.judge(12), 0);
        Due.due("pace 1", x.pace(1), true);
        Due.due("now enough", x.judge(15), 1);
        Due.due("pace 60", x.pace(60), true);
        Due.due("now too few", x.judge(3), 0);
        x.seen(1, 1, 60);
        Due.due("sixty", x.judge(1 << 2 | 1 << 4), 1);
    }

    private static void judged() {
        PitInspector x = scene();
        x.seen(0, 2, 100);
        x.seen(0, 0, 91);
        x.seen(0, 0, 90);
        x.seen(1, 0, 100);
        x.seen(0, 3, 900);
        x.seen(0, 2, 100);
        Due.due("nothing", x.judge(0), 1);
        Due.due("two roads in 9 minutes, back in time", x.judge(3), 0);
        Due.due("two roads in 10 minutes", x.judge(5), 1);
        Due.due("one place, two minutes", x.judge(6), 1);
        Due.due("two hands", x.judge(9), 1);
        Due.due("no way", x.judge(1 | 1 << 4), 0);
        Due.due("twice the same", x.judge(1 | 1 << 5), 1);
        Due.due("a bad pair among more", x.judge(1 | 4 | 8 | 1 << 4), 0);
        Due.due("bit 6", x.judge(64), -1);
        x.road(0, 2, 1, true);
        Due.due("a nearer road, its door shut", x.judge(3), 1);
        x.road(3, 2, 1, false);
        Due.due("a way now", x.judge(1 | 1 << 4), 1);
    }

    private static void theMost() {
        PitInspector x = scene();
        x.seen(0, 0, 0);
        Due.due("one", x.most(), 1);
        x.seen(0, 2, 0);
        Due.due("the least of like ones", x.most(), 1);
        x.seen(0, 2, 1);
        Due.due("the greater", x.most(), 6);
        x.seen(0, 0, 1);
        Due.due("the least again", x.most(), 6);
        x.seen(0, 0, 2);
        Due.due("three", x.most(), 1 | 8 | 16);
        x.seen(1, 3, 0);
        Due.due("another hand", x.most(), 1 | 8 | 16 | 32);
        x.pace(1);
        Due.due("by another pace", x.most(), theMostOf(x, 6));
        // three rows that follow on one another: the middle one goes with neither
        x = scene();
        x.seen(0, 1, 0);
        x.seen(0, 0, 2);
        x.seen(0, 0, 3);
        x.seen(0, 1, 4);
        Due.due("the least by bits, not by rows", x.most(), theMostOf(x, 4));
    }

    /** By judging all sets. */
    private static int theMostOf(PitInspector x, int rows) {
        int best = 0;
        for (int set = 0; set < 1 << rows; set++) {
            if (x.judge(set) == 1 && Integer.bitCount(set) > Integer.bitCount(best)) {
                best = set;
            }
        }
        return best;
    }
}
