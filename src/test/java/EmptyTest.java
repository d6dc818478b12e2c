/** What is empty: each call of a new office, and each thing of which there is none yet in an office that has others. */
final class EmptyTest {
    private static final int NONE = -1;

    public static void main(String[] args) {
        newOfficeAsked();
        newOfficeRefuses();
        newOfficeTakes();
        firstNumbers();
        noTexts();
        emptyTape();
        noNet();
        fansWithoutAir();
        noSurvey();
        nobody();
        nothingKnown();
        noFalls();
        noLooks();
        nothingSeen();
        Due.end("EmptyTest");
    }

    private static void newOfficeAsked() {
        PitInspector x = new PitInspector();
        for (int what = 0; what <= 17; what++) {
            Due.due("1 count(" + what + ")", x.count(what), 0);
        }
        for (int p = 0; p < 12; p++) {
            Due.due("57 nobody's pit " + p, x.count(20 + p), NONE);
        }
        for (int seam = 0; seam < 8; seam++) {
            Due.due("47 beyond(" + seam + ")", x.beyond(seam), 0);
        }
        Due.due("32 torn", x.torn(), NONE);
        Due.due("54 the empty set", x.judge(0), 1);
        Due.due("54 the first row", x.judge(1), NONE);
        Due.due("55 most", x.most(), 0);
        Due.due("51 look", x.look(0, 0), NONE);
        Due.due("51 who looks", x.look(0, 1), NONE);
        Due.due("38 nobody had a lamp", x.had(0, 0, 0), 0);
        Due.due("38 nobody had a lamp, half 1", x.had(9, 0, 1), 0);
    }

    private static void newOfficeRefuses() {
        Town.Call[] none = {x -> x.hand(0, 0), x -> x.text(0, 0, 0, 1), x -> x.text(-1, 0, 0, 1), x -> x.counts(0, 0),
            x -> x.holds(0, 0, 0), x -> x.broken(0), x -> x.brokenAt(0, 0, 0), x -> x.fine(0), x -> x.within(0),
            x -> x.place(0), x -> x.road(0, 1, 1, false), x -> x.air(0), x -> x.worst(0), x -> x.ways(0),
            x -> x.water(0, 0, 0), x -> x.face(0, 0, 0, 0), x -> x.yards(0, 0, 0), x -> x.nearest(0, false),
            x -> x.nearest(0, true), x -> x.moves(0, 0, 0, 1), x -> x.join(0, 0, 0, 1, 0, 0, 0), x -> x.shots(0, 0, 24),
            x -> x.warn(0), x -> x.knew(0, 0, 0), x -> x.late(0, 0), x -> x.worth(0), x -> x.send(1, 0, 0),
            x -> x.send(0, 0, 0), x -> x.seen(0, 0, 0), x -> x.about(0, 0), x -> x.count(20), x -> x.had(0, 1, 0)};
        for (int k = 0; k < none.length; k++) {
            Town.refused("a new office, NONE " + k, PitInspector::new, none[k], NONE);
        }
        Town.Call[] not = {x -> Town.bit(x.told(0, 0, 0)), x -> Town.bit(x.door(0, true)), x -> Town.bit(x.fan(0, 0, 1, 0)),
            x -> Town.bit(x.shift(0, 0, 0)), x -> Town.bit(x.down(0, NONE)), x -> Town.bit(x.up(0)),
            x -> Town.bit(x.book(0, 0)), x -> Town.bit(x.shot(0)), x -> Town.bit(x.tell(0, 0, 1)),
            x -> Town.bit(x.act(0, 0)), x -> Town.bit(x.fall(0))};
        for (int k = 0; k < not.length; k++) {
            Town.refused("a new office, false " + k, PitInspector::new, not[k], 0);
        }
        Town.refused("19 least of a new office", PitInspector::new, x -> x.least(0), -2);
        Town.refused("20 trial of a new office", PitInspector::new, x -> x.trial(0), -2);
        Town.refused("23 fewest of a new office", PitInspector::new, x -> x.fewest(0), -2);
        Town.refused("36 differs of a new office", PitInspector::new, x -> x.differs(0), -100000);
    }

    private static void newOfficeTakes() {
        Due.due("2 now", new PitInspector().now(0), true);
        Due.due("3 pit", new PitInspector().pit(0, 0, 0, 0), 0);
        Due.due("6 feed", new PitInspector().feed(0, 0, 0, 0, 0), 20);
        Due.due("24 plan", new PitInspector().plan(0, 0, 0, 0), 0);
        Due.due("33 lamp", new PitInspector().lamp(0), 0);
        Due.due("48 inspectors", new PitInspector().inspectors(16), true);
        Due.due("53 pace", new PitInspector().pace(60), true);
        PitInspector x = new PitInspector();
        Due.due("7 an act without pits", Due.act(x, "f1"), 0);
        Due.due("8 it counts for none", x.counts(0, 0), NONE);
        Due.due("9 nor holds for one", x.holds(0, 0, 0), NONE);
    }

    private static void firstNumbers() {
        PitInspector x = new PitInspector();
        Due.due("3 the first pit", x.pit(0, 0, 0, 0), 0);
        Due.due("5 the first hand", x.hand(0, 0), 0);
        Due.due("7 the first text", Due.act(x, "f1"), 0);
        Due.due("14 the first place", x.place(0), 0);
        x.place(0);
        Due.due("15 the first road", x.road(0, 1, 1, true), 0);
        Due.due("24 the first plan", x.plan(0, 0, 0, 0), 0);
        x.plan(0, 0, 0, 0);
        Due.due("26 the first water", x.water(0, 0, 0), 0);
        Due.due("27 the first face", x.face(0, 0, 0, 0), 0);
        Due.due("31 the first join", x.join(0, 0, 0, 1, 0, 0, 0), 0);
        Due.due("33 the first lamp", x.lamp(0), 0);
        Due.due("41 the first warning", x.warn(0), 0);
        Due.due("52 the first row", x.seen(0, 0, 0), 0);
    }

    private static PitInspector onePit() {
        PitInspector x = new PitInspector();
        x.pit(2, 59, 7, 3);
        return x;
    }

    private static void noTexts() {
        PitInspector x = onePit();
        Due.due("10 nothing is broken", x.broken(0), 0);
        Due.due("11 no first one", x.brokenAt(0, 0, 0), NONE);
        Due.due("12 no fine", x.fine(0), 0);
        Due.due("49 worth by gas and depth", x.worth(0), 12);
        Due.act(x, "n(1=1)");
        Due.due("12 a text without an f", x.fine(0), 0);
        x = onePit();
        Due.act(x, "n(1=1);f0");
        Due.due("12 an f of 0", x.fine(0), 0);
        x = onePit();
        Due.rules(x, 0, "d(g=7)");
        Due.due("13 no acts", x.within(0), 1);
        Due.act(x, "f1;x0.0;w(g=7)1");
        Due.due("13 an act without d and n", x.within(0), 1);
        Due.rules(x, 0, "f1");
        Due.act(x, "d(1=1);n(1=2)");
        Due.due("13 rules without d and n", x.within(2), 1);
    }

    private static void emptyTape() {
        PitInspector x = new PitInspector();
        Due.due("7 no byte of none", x.text(-1, 0, 0, 0), NONE);
        Due.due("7 one byte of none", x.text(-1, 0, 0, 1), NONE);
        x.feed(0x66312020, 0, 0, 0, 0);
        Due.due("7 no byte of twenty", x.text(-1, 0, 0, 0), NONE);
        Due.due("7 it stays", x.count(17), 20);
        Due.due("7 the first two", x.text(-1, 0, 0, 2), 0);
        Due.due("7 empty then", x.count(17), 0);
        Due.due("7 one byte of none again", x.text(-1, 0, 0, 1), NONE);
    }

    private static void noNet() {
        PitInspector x = onePit();
        Due.due("19 no fan, no road", x.least(0), -1);
        Due.due("21 no road", x.worst(0), NONE);
        Due.due("23 no place", x.fewest(0), -1);
        x.place(0);
        Due.due("23 a bank alone", x.fewest(0), -1);
        Due.due("22 ways of a bank", x.ways(0), NONE);
        x.place(0);
        Due.due("22 no road from it", x.ways(1), 0);
        Due.due("23 no road", x.fewest(0), 0);
        Due.due("17 a fan without a road", x.fan(0, 0, 1, 5), true);
        Due.due("19 a fan, no road", x.least(0), -1);
        Due.due("21 a fan, no road", x.worst(0), NONE);
        x.road(0, 1, 1, true);
        Due.due("18 the door is shut at first", x.air(0), 0);
        Due.due("19 no open road", x.least(0), -1);
        Due.due("20 the door alone opened", x.trial(0), 5);
        Due.due("21 the one door", x.worst(0), 0);
        x = onePit();
        x.place(0);
        x.place(0);
        x.road(0, 1, 1, false);
        Due.due("18 air without a fan", x.air(0), 0);
        Due.due("19 least without a fan", x.least(0), -1);
        Due.due("21 no door", x.worst(0), NONE);
        x.road(0, 1, 1, true);
        x.road(1, 0, 1, true);
        Due.due("20 trial without a fan", x.trial(1), -1);
        Due.due("21 all are alike without a fan", x.worst(0), 1);
    }

    private static void fansWithoutAir() {
        PitInspector x = onePit();
        x.place(0);
        x.place(0);
        x.place(0);
        x.road(0, 1, 1, false);
        x.fan(0, 0, 1, 0);
        Due.due("18 a fan of 0", x.air(0), 0);
        Due.due("19 a fan of 0", x.least(0), 0);
        x.fan(0, 0, 2, 9);
        Due.due("18 no way", x.air(0), 0);
        Due.due("19 no way", x.least(0), 0);
        x.road(1, 2, 1, true);
        Due.due("18 no way but by a shut door", x.air(0), 0);
        Due.due("20 and by that door", x.trial(1), 9);
        Due.due("19 still none", x.least(0), 0);
    }

    private static void noSurvey() {
        PitInspector x = onePit();
        Due.due("29 a pit without faces", x.nearest(0, true), 99999);
        Due.due("29 no face", x.nearest(0, false), NONE);
        x.plan(5, 0, 0, 0);
        x.water(0, 0, 0);
        Due.due("29 a pit without faces, but water", x.nearest(0, true), 99999);
        Due.due("30 no faces", x.moves(0, 1, 1, 99999), 0);
        x = onePit();
        x.plan(5, 0, 0, 0);
        x.face(0, 0, 0, 0);
        Due.due("29 a face without water", x.nearest(0, false), 99999);
        Due.due("29 a pit without water", x.nearest(0, true), 99999);
        Due.due("28 no water", x.yards(0, 0, 0), NONE);
        Due.due("30 no water", x.moves(0, 1, 1, 99999), 0);
        Due.due("32 no joins", x.torn(), NONE);
    }

    private static void nobody() {
        PitInspector x = onePit();
        Due.due("36 nobody is below, the book tells 0", x.differs(0), 0);
        Due.due("57 nobody is below", x.count(20), 0);
        Due.due("40 no shots", x.shots(0, 0, 24), 0);
        x.hand(0, 3);
        Due.due("56 not below", x.about(0, 2), 0);
        Due.due("56 no lamp", x.about(0, 3), NONE);
        Due.due("34 no lamp to take", x.down(0, 0), false);
        Due.due("34 without one", x.down(0, NONE), true);
        Due.due("38 below without a lamp", x.had(0, 0, 0), 0);
        x.lamp(0);
        Due.due("38 a lamp that nobody took", x.had(0, 0, 0), 0);
        Due.act(x, "d(l=0);d(q=0);d(b=1)");
        Due.due("9 no lamp is out", x.holds(0, 0, 0), 1);
        Due.due("9 no shot", x.holds(0, 1, 0), 1);
        Due.due("9 one is below", x.holds(0, 2, 0), 1);
    }

    private static void nothingKnown() {
        PitInspector x = onePit();
        x.hand(0, 0);
        x.hand(0, 0);
        Due.due("42 no warning", x.tell(0, 0, 1), false);
        Due.due("43 no warning", x.act(0, 0), false);
        x.now(100);
        x.warn(0);
        x.now(5000);
        Due.due("45 no w: nobody", x.late(0, 0), 0);
        Due.act(x, "f1;d(1=1)");
        Due.due("45 a text without a w: nobody", x.late(0, 0), 0);
        Due.act(x, "w(1=2)0");
        Due.due("45 no w that holds: nobody", x.late(0, 0), 0);
        Due.act(x, "w(1=1)0");
        Due.due("45 one that holds", x.late(0, 0), 1);
        Due.due("45 nobody of half 1", x.late(0, 1), 0);
        Due.due("44 nobody of half 1", x.knew(0, 5000000, 1), 0);
        Due.due("44 nobody ahead of it", x.knew(0, 99, 0), 0);
    }

    private static void noFalls() {
        PitInspector x = onePit();
        Due.due("47 no falls", x.beyond(2), 0);
        x.fall(0);
        Due.due("47 one seam alone", x.beyond(2), 0);
        Due.due("47 a seam without pits", x.beyond(3), 0);
        x.told(0, 1, 0);
        Due.due("47 no men", x.beyond(2), 0);
    }

    private static void noLooks() {
        PitInspector x = onePit();
        Due.due("50 no looks to send", x.send(0, 0, 0), NONE);
        Due.due("50 one look, none drawn", x.send(1, 99, 0), 0);
        Due.due("51 to the one pit", x.look(0, 0), 0);
        Due.due("51 by the one inspector", x.look(0, 1), 0);
        Due.due("50 one look, drawn", x.send(1, 100, 0), 1);
        Due.due("51 drawn of one", x.look(0, 0), 0);
        Due.due("51 by the one inspector again", x.look(0, 1), 0);
    }

    private static void nothingSeen() {
        PitInspector x = onePit();
        x.hand(0, 0);
        Due.due("52 no place", x.seen(0, 0, 0), NONE);
        x.place(0);
        Due.due("55 nothing yet", x.most(), 0);
        Due.due("52 at the minute NOW", x.seen(0, 0, 0), 0);
        Due.due("55 one", x.most(), 1);
        Due.due("54 none of it", x.judge(0), 1);
        Due.due("54 one", x.judge(1), 1);
        Due.due("54 no second", x.judge(2), NONE);
    }
}
