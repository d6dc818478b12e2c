/**
 * Words like above, below, more than, not ahead of, both too: for each the last case on one side and the first on the
 * other, each by a test of its own.
 */
final class EdgesTest {
    private static final int NONE = -1;

    public static void main(String[] args) {
        inForceOnBothDays();
        strikesLowerTextsAlone();
        strikesItsOwnPitsRules();
        oneMustHoldAllMust();
        lastFineThatCounts();
        withinBySameBytes();
        withinByAllBytes();
        worthByItsOwnPit();
        depthIsRoundedDown();
        partsAreRoundedDown();
        leftFromTheLowest();
        leftGoesOn();
        oneStepLess();
        leastOfOpenRoads();
        worstOfLikeOnes();
        waysShareNoRoad();
        farByTheGreater();
        doubtOnceOrBoth();
        notBelowNought();
        nearestOfAll();
        belowSoManyYards();
        joinsHoldUpToDoubt();
        hadAtTheMinuteOfGoingUp();
        hoursFromAndTo();
        knewAtThatMinuteToo();
        lateAboveSixtyMinutes();
        lateByDuty();
        lateByTheLast();
        aboveChance();
        shareRoundedDown();
        worthOfLikeOnes();
        lookedLast();
        minutesBetween();
        theLeastOfLikeSets();
        Due.end("EdgesTest");
    }

    private static PitInspector office(int... men) {
        PitInspector x = new PitInspector();
        for (int p = 0; p < men.length; p++) {
            x.pit(p, 0, 0, men[p]);
        }
        return x;
    }

    private static void inForceOnBothDays() {
        PitInspector x = office(0);
        Due.text(x, NONE, 3, 5, "n(1=1)");
        Due.text(x, 0, 4, 4, "n(1=1)");
        Due.text(x, NONE, 3472, 3472, "n(1=1)");
        int[][] want = {{3 * 1440 - 1, 0, 0, 0}, {3 * 1440, 1, 0, 0}, {4 * 1440 - 1, 1, 0, 0}, {4 * 1440, 1, 1, 0},
            {5 * 1440 - 1, 1, 1, 0}, {5 * 1440, 1, 0, 0}, {6 * 1440 - 1, 1, 0, 0}, {6 * 1440, 0, 0, 0},
            {3472 * 1440 - 1, 0, 0, 0}, {3472 * 1440, 0, 0, 1}, {5000000, 0, 0, 1}};
        for (int[] w : want) {
            x.now(w[0]);
            for (int i = 0; i < 3; i++) {
                Due.due("8 text " + i + " at " + w[0], x.counts(i, 0), w[i + 1]);
                Due.due("9 in force or not, " + i + " at " + w[0], x.holds(i, 0, 0), 1);
            }
            Due.due("10 broken at " + w[0], x.broken(0), w[1] + w[2] + w[3]);
        }
    }

    private static void strikesLowerTextsAlone() {
        PitInspector x = office(0);
        Due.act(x, "f1;x1.0;x0.0");
        Due.act(x, "f1;x1.0;x2.0");
        Due.act(x, "f1;x1.11;x1.2");
        Due.due("8 not by itself, nor by a higher x of its own", x.counts(0, 0), 3);
        Due.due("8 one by a higher one", x.counts(1, 0), 2);
        Due.due("8 the highest", x.counts(2, 0), 3);
        Due.act(x, "x2.2");
        Due.due("8 the x that struck is struck", x.counts(1, 0), 3);
        Due.act(x, "x3.0");
        Due.due("8 the x that struck that one is struck", x.counts(1, 0), 2);
        Due.act(x, "x0.11;x0.3");
        Due.due("8 a clause that is not there", x.counts(0, 0), 3);
        Due.act(x, "x0.0;x0.0");
        Due.due("8 one clause twice", x.counts(0, 0), 2);
    }

    private static void strikesItsOwnPitsRules() {
        PitInspector x = office(0, 0);
        Due.act(x, "f1");
        Due.rules(x, 0, "f1;f2");
        Due.rules(x, 1, "x1.0;x0.0;f3");
        Due.rules(x, 0, "x0.0;x2.2;x1.1");
        Due.due("8 an act is not struck by rules, pit 0", x.counts(0, 0), 1);
        Due.due("8 an act is not struck by rules, pit 1", x.counts(0, 1), 1);
        Due.due("8 rules of the same pit are", x.counts(1, 0), 1);
        Due.due("8 rules of another pit are not", x.counts(2, 1), 3);
        Due.act(x, "x2.2;x0.0");
        Due.due("8 by an act they are", x.counts(2, 1), 2);
        Due.due("8 an act by an act, for all", x.counts(0, 1), 0);
        Due.due("8 rules count not for another pit", x.counts(1, 1), 0);
    }

    private static void oneMustHoldAllMust() {
        String[] conditions = {"1=1|1=2|1=2", "1=2|1=2|1=1", "1=2|1=2|1=2", "1=1&1=1&1=1", "1=1&1=1&1=2", "1=2&1=1&1=1",
            "1=2&1=2|1=1", "1=1|1=2&1=2", "1=1&1=2|1=2&1=1", "!1=2&1=2", "!(1=2&1=2)", "!1=1|1=1", "!!!1=2", "!!1=2"};
        int[] want = {1, 1, 0, 1, 0, 0, 1, 1, 0, 0, 1, 1, 1, 0};
        for (int k = 0; k < want.length; k++) {
            PitInspector x = office(0);
            Due.act(x, "d(" + conditions[k] + ");n(" + conditions[k] + ")");
            Due.due("9 " + conditions[k], x.holds(0, 0, 0), want[k]);
            Due.due("11 d or n of " + conditions[k], x.brokenAt(0, 0, 1), want[k]);
        }
        String[] asked = {"1=1|1/0=1", "1=2|1/0=1", "1=2&1/0=1", "1=1&1/0=1", "1/0=1|1=1", "1/0=1&1=2", "!(1=1|1/0=1)",
            "(1=2&1/0=1)|1=1", "1=2&(1=1|1=1)&1/0=1|1=1", "1=1|1=1&1/0=1", "1=1&1=1|1/0=1", "0*[1/0]=0"};
        int[] due = {1, 2, 0, 2, 2, 2, 0, 1, 1, 1, 1, 2};
        for (int k = 0; k < due.length; k++) {
            PitInspector x = office(0);
            Due.act(x, "d(" + asked[k] + ");n(" + asked[k] + ")");
            Due.due("9 as much as matters of " + asked[k], x.holds(0, 0, 0), due[k]);
            Due.due("10 refused is broken, " + asked[k], x.broken(0), due[k] == 2 ? 2 : 1);
        }
    }

    private static void lastFineThatCounts() {
        PitInspector x = office(0);
        Due.act(x, "f5;n(1=1);f6;f7");
        Due.act(x, "n(1=1);d(1=2)");
        Due.due("12 the last of three, none of another text", x.fine(0), 7);
        Due.act(x, "x0.3");
        Due.due("12 the last that counts", x.fine(0), 6);
        Due.act(x, "x0.2");
        Due.due("12 the first, ahead of what is broken", x.fine(0), 5);
        Due.act(x, "x0.0");
        Due.due("12 none that counts", x.fine(0), 0);
        Due.act(x, "x4.0");
        Due.due("12 the first again", x.fine(0), 5);
    }

    private static void withinBySameBytes() {
        String[] rules = {"d(g=1)", "n(g=1)", "d(m=1)", "n(m=1)", "w(g=1)1", "d(g=01)", "d((g=1))", "d(g=1|m=1)", "d(g=11)",
            "d(1=g)", "f1;d(1=1);d(g=1)", "f1;n(1=1);n(m=1)"};
        int[] want = {0, 1, 1, 0, 1, 1, 1, 1, 1, 1, 0, 0};
        for (int k = 0; k < rules.length; k++) {
            PitInspector x = office(0, 0);
            Due.text(x, NONE, 1, 1, "f1;n(g=1);d(m=1);w(m=1)1");
            Due.text(x, 1, 0, 3, "n(g=01);d(g=1|m=1)");
            Due.text(x, 0, 2, 2, rules[k]);
            Due.due("13 ahead of the act, " + rules[k], x.within(2), 1);
            x.now(1440);
            Due.due("13 with the act, " + rules[k], x.within(2), want[k]);
            x.now(2880);
            Due.due("13 after the act, " + rules[k], x.within(2), 1);
        }
    }

    /** Neither the beginning of the other's bytes nor bytes that go on behind it are the same. */
    private static void withinByAllBytes() {
        String[][] rulesAndActs = {{"d(g=1)", "n(g=11)"}, {"d(g=11)", "n(g=1)"}, {"n(g=1)", "d(g=1&g=1)"}, {"n(g=1|g=1)", "d(g=1)"},
            {"d(g=1)", "n(1=1)"}, {"d(g=1)", "n(m=1)"}, {"d(g=1)", "n(g=2)"}, {"d(g=1)", "n(g<1)"}, {"d(g=1)", "n(g=1)"}};
        for (String[] of : rulesAndActs) {
            PitInspector x = office(0);
            Due.act(x, of[1]);
            Due.rules(x, 0, of[0]);
            boolean same = of[0].substring(1).equals(of[1].substring(1));
            Due.due("13 " + of[0] + " within " + of[1], x.within(1), same ? 0 : 1);
        }
    }

    private static void worthByItsOwnPit() {
        PitInspector x = new PitInspector();
        x.pit(1, 0, 10, 0);
        x.pit(2, 0, 20, 0);
        x.pit(3, 0, 30, 0);
        Due.act(x, "n(g=20);n(g>10);n(s=1)");
        int[] want = {30, 60, 50};
        int[] order = {0, 1, 2, 0, 2, 1, 1, 0};
        for (int p : order) {
            Due.due("49 worth of " + p, x.worth(p), want[p]);
        }
        for (int p : order) {
            x.fine((p + 1) % 3);
            Due.due("49 worth of " + p + " behind another's fine", x.worth(p), want[p]);
            Due.due("10 broken by " + p, x.broken(p), (want[p] - 10 * (p + 1)) / 20);
        }
        x.send(3, 0, 0);
        Due.due("51 of most worth", x.look(0, 0), 1);
        Due.due("51 of less", x.look(1, 0), 2);
        Due.due("51 of least", x.look(2, 0), 0);
    }

    private static void depthIsRoundedDown() {
        int[][] want = {{0, 0}, {9, 0}, {10, 1}, {19, 1}, {1999, 199}, {2000, 200}};
        for (int[] w : want) {
            PitInspector x = new PitInspector();
            x.pit(0, w[0], 7, 0);
            Due.due("49 depth " + w[0], x.worth(0), 7 + w[1]);
            Due.act(x, "n(1=1)");
            Due.due("49 one broken, depth " + w[0], x.worth(0), 27 + w[1]);
        }
    }

    /** Two places, and roads of such widths between them. */
    private static PitInspector roads(int air, int... widths) {
        PitInspector x = office(0);
        x.place(0);
        x.place(0);
        for (int w : widths) {
            x.road(0, 1, w, false);
        }
        x.fan(0, 0, 1, air);
        return x;
    }

    private static void airs(String name, PitInspector x, int... want) {
        for (int r = 0; r < want.length; r++) {
            Due.due("18 " + name + ", road " + r, x.air(r), want[r]);
        }
    }

    private static void partsAreRoundedDown() {
        airs("no rest", roads(6, 1, 2, 3), 1, 2, 3);
        airs("a rest of one", roads(7, 1, 2, 3), 2, 2, 3);
        airs("a rest of two", roads(5, 1, 2, 3), 1, 2, 2);
        airs("nothing but rest", roads(2, 1, 1, 1), 1, 1, 0);
        airs("the most air", roads(1000000, 100, 100, 100), 333334, 333333, 333333);
        airs("widths 1 and 100", roads(101, 1, 100), 1, 100);
        airs("widths 1 and 100, one less", roads(100, 1, 100), 1, 99);
        airs("no air", roads(0, 1, 100), 0, 0);
        airs("one", roads(1, 1, 100), 1, 0);
    }

    private static void leftFromTheLowest() {
        PitInspector x = office(0);
        for (int k = 0; k < 4; k++) {
            x.place(0);
        }
        x.road(3, 2, 1, false);
        x.road(1, 3, 1, false);
        x.road(0, 2, 1, false);
        x.road(1, 0, 1, false);
        x.fan(0, 0, 3, 3);
        airs("by roads, not by places", x, 2, 1, 2, 1);
        x.fan(0, 3, 0, 3);
        airs("and the other way", x, 2, 1, 2, 1);
        x = roads(5, 1, 1);
        x.road(1, 0, 1, true);
        airs("a shut door has none", x, 3, 2, 0);
        x.door(2, true);
        airs("an open one has its part", x, 2, 2, 1);
    }

    /** What is left at a place goes neither back by the lower road that it came by, nor by roads that lead nowhere. */
    private static void leftGoesOn() {
        PitInspector x = office(0);
        for (int k = 0; k < 4; k++) {
            x.place(0);
        }
        x.road(0, 1, 1, false);
        x.road(1, 3, 1, false);
        x.road(1, 2, 1, true);
        x.road(1, 2, 1, false);
        x.road(1, 2, 1, false);
        x.fan(0, 0, 2, 3);
        airs("what is left goes on", x, 3, 0, 0, 2, 1);
        x.fan(0, 2, 0, 5);
        airs("and the other way", x, 5, 0, 0, 3, 2);
        x.fan(0, 3, 2, 1);
        airs("one alone", x, 0, 1, 0, 1, 0);
    }

    private static void oneStepLess() {
        PitInspector x = office(0);
        for (int k = 0; k < 5; k++) {
            x.place(0);
        }
        x.road(0, 1, 1, false);
        x.road(1, 4, 1, false);
        x.road(0, 2, 100, false);
        x.road(2, 3, 100, false);
        x.road(3, 4, 100, false);
        x.road(1, 2, 100, false);
        x.fan(0, 0, 4, 10);
        airs("the longer way has none", x, 10, 10, 0, 0, 0, 0);
        x.road(0, 4, 1, true);
        airs("a shut short way", x, 10, 10, 0, 0, 0, 0, 0);
        Due.due("20 the short way open", x.trial(6), 0);
        x.door(6, true);
        airs("an open short way has all", x, 0, 0, 0, 0, 0, 0, 10);
        x = office(0);
        for (int k = 0; k < 3; k++) {
            x.place(0);
        }
        x.road(0, 1, 1, false);
        x.road(1, 2, 1, false);
        x.fan(0, 0, 1, 10);
        airs("nothing goes on behind the upcast", x, 10, 0);
        x.fan(0, 1, 2, 10);
        airs("nothing goes back behind the downcast", x, 0, 10);
    }

    private static void leastOfOpenRoads() {
        PitInspector x = roads(10, 1, 4);
        Due.due("19 least", x.least(0), 2);
        x.road(0, 1, 1, true);
        Due.due("19 a shut door is not asked", x.least(0), 2);
        Due.due("20 turned it is", x.trial(2), 1);
        x.place(0);
        x.road(1, 2, 1, false);
        Due.due("19 an open road without air", x.least(0), 0);
        x = office(0);
        x.place(0);
        x.place(0);
        x.road(0, 1, 1, true);
        x.fan(0, 0, 1, 1000000);
        Due.due("19 shut roads alone", x.least(0), -1);
        Due.due("20 turned", x.trial(0), 1000000);
        x.door(0, true);
        Due.due("19 the most", x.least(0), 1000000);
        Due.due("20 turned back", x.trial(0), -1);
    }

    private static void worstOfLikeOnes() {
        PitInspector x = office(0);
        x.place(0);
        x.place(0);
        x.road(0, 1, 10, false);
        x.road(0, 1, 2, true);
        x.road(0, 1, 1, true);
        x.road(0, 1, 1, true);
        x.fan(0, 0, 1, 1000);
        Due.due("20 trial 1", x.trial(1), 166);
        Due.due("20 trial 2", x.trial(2), 90);
        Due.due("20 trial 3", x.trial(3), 90);
        Due.due("21 the least, of like ones the lowest", x.worst(0), 2);
        x.door(2, true);
        Due.due("20 trial 2, shut", x.trial(2), 1000);
        Due.due("20 trial 1 with it", x.trial(1), 76);
        Due.due("20 trial 3 with it", x.trial(3), 83);
        Due.due("21 another", x.worst(0), 1);
        Due.due("18 all stays", x.air(0), 910);
    }

    private static void waysShareNoRoad() {
        PitInspector x = office(0);
        for (int k = 0; k < 5; k++) {
            x.place(0);
        }
        x.road(0, 1, 1, true);
        x.road(0, 1, 1, true);
        x.road(1, 2, 1, false);
        Due.due("22 two by shut doors", x.ways(1), 2);
        Due.due("22 one road", x.ways(2), 1);
        x.road(2, 1, 1, false);
        x.road(2, 1, 1, false);
        Due.due("22 two of three, one place shared", x.ways(2), 2);
        Due.due("23 places without a road", x.fewest(0), 0);
        x.road(2, 3, 1, false);
        x.road(3, 4, 1, false);
        Due.due("23 one road behind two", x.fewest(0), 1);
        x.road(4, 0, 1, true);
        Due.due("22 three now", x.ways(2), 3);
        Due.due("23 two now", x.fewest(0), 2);
    }

    private static void farByTheGreater() {
        int[][] want = {{0, 0, 0}, {3, 2, 3}, {2, 3, 3}, {-3, 2, 3}, {2, -3, 3}, {-3, -3, 3}, {-2, 0, 2}, {0, -2, 2}, {1, 1, 1}};
        for (int[] w : want) {
            PitInspector x = office(0);
            x.plan(0, 0, 50, -70);
            x.water(0, w[0], w[1]);
            x.face(0, 0, 0, 0);
            Due.due("28 least to " + w[0] + ", " + w[1], x.yards(0, 0, 0), w[2]);
            Due.due("28 most to " + w[0] + ", " + w[1], x.yards(0, 0, 1), w[2]);
        }
    }

    private static void doubtOnceOrBoth() {
        PitInspector x = office(0);
        x.plan(1000, 0, 0, 0);
        x.plan(1, 0, 0, 0);
        x.face(0, 0, 0, 0);
        x.water(0, 0, 5000);
        x.water(1, 0, 5000);
        Due.due("28 one plan, least", x.yards(0, 0, 0), 4000);
        Due.due("28 one plan, most", x.yards(0, 0, 1), 6000);
        Due.due("28 two plans, least", x.yards(0, 1, 0), 3999);
        Due.due("28 two plans, most", x.yards(0, 1, 1), 6001);
    }

    private static void notBelowNought() {
        for (int far = 28; far <= 32; far++) {
            PitInspector x = office(0);
            x.plan(10, 0, 0, 0);
            x.plan(20, 0, 0, 0);
            x.face(0, 0, 0, 0);
            x.water(1, far, 0);
            Due.due("28 least, so far: " + far, x.yards(0, 0, 0), Math.max(0, far - 30));
            Due.due("28 most, so far: " + far, x.yards(0, 0, 1), far + 30);
        }
    }

    private static void nearestOfAll() {
        PitInspector x = office(0, 0);
        x.plan(0, 0, 0, 0);
        x.face(0, 0, 0, 0);
        x.face(1, 0, 0, 0);
        x.face(0, 0, 30, 0);
        int[][] waterAndWant = {{100000, 100000, 99970}, {60, 60, 30}, {59, 59, 29}, {61, 59, 29}, {31, 31, 1}, {0, 0, 0}};
        for (int[] w : waterAndWant) {
            x.water(0, w[0], 0);
            Due.due("29 of face 0 with water at " + w[0], x.nearest(0, false), w[1]);
            Due.due("29 of pit 0 with water at " + w[0], x.nearest(0, true), w[2]);
            Due.due("29 of pit 1 with water at " + w[0], x.nearest(1, true), w[1]);
        }
    }

    private static void belowSoManyYards() {
        PitInspector x = office(0);
        x.plan(0, 0, 0, 0);
        x.plan(0, 0, 99999, 0);
        x.face(0, 0, 0, 0);
        x.water(1, 0, 0);
        Due.due("30 one below 99999", x.moves(1, 99998, 0, 99999), 1);
        Due.due("30 not below 99999", x.moves(1, 99999, 0, 99999), 0);
        Due.due("30 below one", x.moves(1, 0, 0, 1), 1);
        Due.due("30 not below one", x.moves(1, 1, 0, 1), 0);
        Due.due("30 below fifty", x.moves(1, 0, -49, 50), 1);
        Due.due("30 not below fifty", x.moves(1, 0, -50, 50), 0);
        x.shift(1, 50, 0);
        Due.due("30 is not now", x.moves(1, 49, 0, 50), 1);
        x.shift(1, 49, 0);
        Due.due("30 is now", x.moves(1, 48, 0, 50), 0);
        Due.due("30 away", x.moves(1, 500, 0, 50), 0);
        Due.due("30 all stays", x.nearest(0, false), 49);
        Due.due("30 the face's plan too", x.moves(0, 0, 1000, 10) + x.moves(0, 49, 0, 10), 1);
    }

    private static void joinsHoldUpToDoubt() {
        for (int far = 34; far <= 37; far++) {
            PitInspector x = office(0);
            x.plan(10, 0, 0, 0);
            x.plan(20, 0, 0, 0);
            x.join(0, 0, 0, 1, far, 0, 5);
            Due.due("32 by x, so far: " + far, x.torn(), far > 35 ? 0 : NONE);
            x = office(0);
            x.plan(10, 0, 0, 0);
            x.plan(20, 0, 0, -far);
            x.join(0, 0, 0, 1, 0, 0, 1000);
            x.join(0, 0, 0, 1, 0, 0, 5);
            x.join(0, 0, 0, 1, 0, 0, 0);
            Due.due("32 by y, so far: " + far, x.torn(), far > 35 ? 1 : 2);
        }
    }

    private static void hadAtTheMinuteOfGoingUp() {
        PitInspector x = office(0);
        x.hand(0, 4);
        x.hand(0, 4);
        x.lamp(3);
        x.now(10);
        x.down(0, 0);
        x.now(20);
        x.up(0);
        x.now(30);
        int[][] want = {{0, 1}, {10, 1}, {19, 1}, {20, 1}, {21, 0}, {30, 0}, {31, NONE}};
        for (int[] w : want) {
            Due.due("38 since " + w[0], x.had(3, w[0], 0), w[1]);
        }
        x.down(1, 0);
        Due.due("38 out still, at NOW", x.had(3, 30, 0), 2);
        Due.due("38 both", x.had(3, 20, 0), 3);
        x.now(40);
        Due.due("38 out still, later", x.had(3, 40, 0), 2);
        x.up(1);
        Due.due("38 up at NOW", x.had(3, 40, 0), 2);
        x.now(41);
        Due.due("38 up one ahead", x.had(3, 41, 0), 0);
    }

    private static void hoursFromAndTo() {
        int[] minutes = {0, 59, 60, 7 * 60 - 1, 7 * 60, 8 * 60 - 1, 8 * 60, 23 * 60 - 1, 23 * 60, 1439, 1440, 1440 + 60};
        for (int minute : minutes) {
            PitInspector x = office(0);
            x.hand(0, 3);
            x.down(0, NONE);
            x.now(minute);
            x.shot(0);
            int hour = minute / 60 % 24;
            Due.due("40 from its hour to the next, " + minute, x.shots(0, hour, hour + 1), 1);
            Due.due("40 from its hour to its hour, " + minute, x.shots(0, hour, hour), 0);
            Due.due("40 up to its hour, " + minute, x.shots(0, 0, hour), 0);
            Due.due("40 up to the next, " + minute, x.shots(0, 0, hour + 1), 1);
            Due.due("40 from its hour on, " + minute, x.shots(0, hour, 24), 1);
            Due.due("40 from the next on, " + minute, x.shots(0, hour + 1, 24), 0);
        }
    }

    private static void knewAtThatMinuteToo() {
        PitInspector x = office(0);
        x.hand(0, 4);
        x.hand(0, 4);
        x.now(7);
        x.warn(1);
        x.now(9);
        x.tell(0, 1, 0);
        int[][] want = {{0, 0}, {6, 0}, {7, 2}, {8, 2}, {9, 3}, {10, 3}, {5000000, 3}};
        for (int[] w : want) {
            Due.due("44 at " + w[0], x.knew(0, w[0], 0), w[1]);
        }
    }

    private static void lateAboveSixtyMinutes() {
        for (int hours : new int[] {0, 1, 2, 100}) {
            PitInspector x = office(0);
            x.hand(0, 0);
            x.hand(0, 1);
            x.now(1000);
            x.warn(0);
            x.now(1001);
            x.tell(0, 0, 1);
            Due.act(x, "w(1=1)" + hours);
            x.now(1000 + Math.max(1, 60 * hours));
            Due.due("45 just so many, N " + hours, x.late(0, 0), hours == 0 ? 1 : 0);
            x.now(1001 + 60 * hours);
            Due.due("45 one more, N " + hours, x.late(0, 0), 1);
            x.now(1002 + 60 * hours);
            Due.due("45 both, N " + hours, x.late(0, 0), 3);
        }
        PitInspector x = office(0);
        x.hand(0, 0);
        x.warn(0);
        Due.act(x, "w(1=1)0");
        Due.due("45 in the same minute, N 0", x.late(0, 0), 0);
        Due.act(x, "w(1=1)83333");
        x.now(4999980);
        Due.due("45 just so many of the most", x.late(0, 0), 0);
        x.now(4999981);
        Due.due("45 one more of the most", x.late(0, 0), 1);
        Due.act(x, "w(1=1)99999");
        x.now(5000000);
        Due.due("45 never by the greatest N", x.late(0, 0), 0);
    }

    private static void lateByDuty() {
        for (int duty = 0; duty < 5; duty++) {
            PitInspector x = office(0);
            x.hand(0, duty);
            x.warn(0);
            Due.act(x, "w(1=1)1");
            x.now(61);
            Due.due("45 of duty " + duty, x.late(0, 0), duty <= 2 ? 1 : 0);
            x.act(0, 0);
            Due.due("45 has acted, of duty " + duty, x.late(0, 0), 0);
        }
    }

    private static void lateByTheLast() {
        String[] texts = {"w(1=1)1;w(1=1)5", "w(1=1)5;w(1=1)1", "w(1=1)1;w(1=2)5", "w(1=1)1;w(1/0=1)5", "w(1=2)1;w(1=2)1", "f1;w(1=1)1;d(1=1)"};
        int[] want = {0, 1, 1, 1, 0, 1};
        for (int k = 0; k < want.length; k++) {
            PitInspector x = office(0, 0);
            x.hand(0, 0);
            x.warn(0);
            Due.act(x, texts[k]);
            Due.rules(x, 1, "w(1=1)" + 5 * want[k]);
            x.now(100);
            Due.due("45 by " + texts[k], x.late(0, 0), want[k]);
            Due.rules(x, 0, "w(1=1)5");
            Due.due("45 by rules behind " + texts[k], x.late(0, 0), 0);
            Due.act(x, "x2.0");
            Due.due("45 by struck rules behind " + texts[k], x.late(0, 0), want[k]);
        }
    }

    private static void aboveChance() {
        // all falls in one of two pits with as many men: F times M less F m is F m, F F m m above 8 F m m from 9 on
        PitInspector x = office(50, 50);
        for (int falls = 1; falls <= 10; falls++) {
            x.fall(0);
            Due.due("47 falls " + falls, x.beyond(0), falls > 8 ? 1 : 0);
            Due.due("47 no falls of " + falls, x.beyond(1), 0);
        }
        // with one man of four the difference is 3 F m, 9 F F m m above 16 F m m from 2 on
        x = office(1, 3);
        x.fall(0);
        Due.due("47 one of one", x.beyond(0), 0);
        x.fall(0);
        Due.due("47 two of two", x.beyond(0), 1);
        x.fall(1);
        Due.due("47 two of three", x.beyond(0), 0);
        x = office(0, 5);
        Due.due("47 no falls, no men of its own", x.beyond(0), 0);
        x.fall(0);
        Due.due("47 a fall, no men of its own", x.beyond(0), 1);
        x = office(10, 0);
        x.fall(0);
        Due.due("47 as many as there should be", x.beyond(0), 0);
        x = office(0, 0);
        x.fall(0);
        Due.due("47 no men at all", x.beyond(0), 0);
    }

    private static void shareRoundedDown() {
        int[][] want = {{1, 99, 0}, {1, 100, 1}, {2, 49, 0}, {2, 50, 1}, {2, 99, 1}, {2, 100, 2}, {3, 33, 0}, {3, 34, 1},
            {3, 66, 1}, {3, 67, 2}, {3, 99, 2}, {3, 100, 3}, {7, 14, 0}, {7, 15, 1}, {12, 8, 0}, {12, 9, 1}, {12, 0, 0}};
        for (int[] w : want) {
            PitInspector x = office(0, 0, 0, 0, 0, 0, 0);
            for (int p = 7; p < 12; p++) {
                x.pit(0, 0, 0, 0);
            }
            Due.due("50 of " + w[0] + " by " + w[1], x.send(w[0], w[1], 0), w[2]);
            Due.due("57 looks of " + w[0] + " by " + w[1], x.count(15), w[0]);
        }
    }

    private static void worthOfLikeOnes() {
        PitInspector x = new PitInspector();
        x.pit(0, 0, 20, 0);
        x.pit(0, 200, 0, 0);
        x.pit(0, 209, 0, 0);
        x.pit(0, 210, 0, 0);
        int[] want = {3, 0, 1, 2};
        x.send(4, 0, 0);
        for (int k = 0; k < 4; k++) {
            Due.due("51 look " + k, x.look(k, 0), want[k]);
        }
        Due.rules(x, 2, "n(1=1)");
        x.send(1, 0, 0);
        Due.due("51 one broken is most", x.look(0, 0), 2);
        x.told(0, 0, 40);
        x.send(1, 0, 0);
        Due.due("51 as much gas, and lower", x.look(0, 0), 0);
        x.told(0, 0, 39);
        x.send(1, 0, 0);
        Due.due("51 one less", x.look(0, 0), 2);
        int drawn = 28411 % 4;
        Due.due("50 one drawn of two", x.send(2, 50, 0), 1);
        Due.due("51 the drawn one first", x.look(0, 0), drawn);
        Due.due("51 then of most worth that has none yet", x.look(1, 0), drawn == 2 ? 0 : 2);
    }

    private static void lookedLast() {
        PitInspector x = office(0, 0);
        x.told(0, 0, 1);
        x.inspectors(2);
        x.send(1, 0, 0);
        Due.due("51 the first", x.look(0, 1), 0);
        x.send(1, 0, 0);
        Due.due("51 was the last, so the next", x.look(0, 1), 1);
        x.send(1, 0, 0);
        Due.due("51 was not the last", x.look(0, 1), 0);
        x.told(1, 0, 2);
        x.send(2, 0, 0);
        Due.due("51 a pit without a look yet", x.look(0, 1), 0);
        Due.due("51 the second of two", x.look(1, 1), 1);
        x.send(2, 0, 0);
        Due.due("51 the next", x.look(0, 1), 1);
        Due.due("51 the next of the last, round about", x.look(1, 1), 0);
    }

    private static void minutesBetween() {
        for (int pace : new int[] {1, 5, 60}) {
            for (int roads = 0; roads <= 3; roads++) {
                int least = pace * roads;
                PitInspector x = office(0);
                x.hand(0, 4);
                for (int k = 0; k < 4; k++) {
                    x.place(0);
                }
                for (int k = 0; k < 3; k++) {
                    x.road(k, k + 1, 1, true);
                }
                x.pace(pace);
                x.now(5000);
                x.seen(0, 0, 1000);
                x.seen(0, roads, 1000 + least);
                x.seen(0, roads, 1000 - least);
                x.seen(0, roads, 1000 + Math.max(0, least - 1));
                Due.due("54 just so many minutes, later", x.judge(3), 1);
                Due.due("54 just so many minutes, before", x.judge(5), 1);
                Due.due("54 one less", x.judge(9), roads == 0 ? 1 : 0);
            }
        }
        PitInspector x = office(0);
        x.hand(0, 4);
        x.hand(0, 4);
        x.place(0);
        x.place(0);
        x.now(5000000);
        x.seen(0, 0, 0);
        x.seen(0, 1, 5000000);
        x.seen(1, 1, 0);
        Due.due("54 no way, however long", x.judge(3), 0);
        Due.due("54 two hands", x.judge(5), 1);
        Due.due("54 one hand of two", x.judge(6), 1);
        x.road(0, 1, 1, true);
        Due.due("54 a way by a shut door", x.judge(3), 1);
    }

    private static void theLeastOfLikeSets() {
        PitInspector x = office(0);
        x.hand(0, 4);
        x.place(0);
        x.place(0);
        x.now(100);
        x.seen(0, 0, 10);
        x.seen(0, 1, 10);
        Due.due("55 of two like ones the least", x.most(), 1);
        x.seen(0, 0, 11);
        Due.due("55 two beside one", x.most(), 5);
        x.seen(0, 1, 11);
        Due.due("55 two and two", x.most(), 5);
        x.seen(0, 1, 12);
        Due.due("55 three beside two", x.most(), 26);
        x.seen(0, 0, 12);
        Due.due("55 three and three", x.most(), 26);
        x.seen(0, 0, 13);
        Due.due("55 four", x.most(), 1 | 4 | 32 | 64);
    }
}
