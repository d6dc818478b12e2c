/**
 * What is full: the last one that is taken has the last number, the next one is refused and changes nothing, and what
 * there is goes on as before. (The 300 outings cannot be reached in 512 calls: CrewTest has them.)
 */
final class FullTest {
    private static final int NONE = -1;

    private interface Made {
        PitInspector office();
    }

    public static void main(String[] args) {
        pits();
        hands();
        tape();
        texts();
        clauses();
        places();
        roads();
        plans();
        waters();
        faces();
        joins();
        lamps();
        handsBelow();
        shots();
        warnings();
        falls();
        looks();
        seen();
        Due.end("FullTest");
    }

    private static PitInspector filled(PitInspector x, int from, int most, String name, Town.CallOf add) {
        for (int k = from; k < most; k++) {
            Due.due(name + " " + k, add.on(x, k), k);
        }
        return x;
    }

    /** One more is refused, whoever asks it. */
    private static void full(String name, Made made, int what, int most, Town.Call... more) {
        Due.due(name + ", all there", made.office().count(what), most);
        for (int k = 0; k < more.length; k++) {
            Town.refusedWhenFull(name + ", one more, " + k, made::office, more[k], NONE);
        }
    }

    private static PitInspector fullOfPits() {
        return filled(Town.office(), 3, 12, "3 pit", (x, k) -> x.pit(k % 8, 1, 2, 3));
    }

    private static void pits() {
        full("3 pits", FullTest::fullOfPits, 1, 12, x -> x.pit(0, 0, 0, 0), x -> x.pit(7, 2000, 100, 2000),
            x -> x.pit(8, 0, 0, 0));
        PitInspector x = fullOfPits();
        Due.due("4 told of the last pit", x.told(11, 0, 50), true);
        Due.due("4 told of the one behind", x.told(12, 0, 50), false);
        Due.due("5 hand of the last pit", x.hand(11, 4), 7);
        Due.due("34 down in the last pit", x.down(7, NONE), true);
        Due.due("57 below in the last pit", x.count(31), 1);
        Due.due("57 below in the one behind", x.count(32), -1);
        Due.due("36 differs of the last pit", x.differs(11), 1);
    }

    private static PitInspector fullOfHands() {
        return filled(Town.office(), 7, 40, "5 hand", (x, k) -> x.hand(k % 3, k % 5));
    }

    private static void hands() {
        full("5 hands", FullTest::fullOfHands, 2, 40, x -> x.hand(0, 0), x -> x.hand(2, 4), x -> x.hand(3, 0));
        PitInspector x = fullOfHands();
        Due.due("56 the last hand's pit", x.about(39, 0), 0);
        Due.due("56 the last hand's duty", x.about(39, 1), 4);
        Due.due("41 warn by the last hand", x.warn(39), 3);
        Due.due("44 known to the last hand alone", x.knew(3, 3000, 1), 1 << 19);
        Due.due("44 and to none of the others", x.knew(3, 3000, 0), 0);
        Due.due("42 tell the hand ahead of the half", x.tell(3, 39, 18), true);
        Due.due("43 act by the last hand", x.act(3, 39), true);
        Due.due("43 once", x.act(3, 39), false);
        Due.due("43 not by hand 7 with it", x.act(3, 7), false);
    }

    private static PitInspector fullTape() {
        PitInspector x = new PitInspector();
        for (int k = 1; k <= 8; k++) {
            Due.due("6 feed " + k, x.feed(0x66313B66, 0x313B6631, 0x3B66313B, 0x66313B66, 0x313B6631), 20 * k);
        }
        return x;
    }

    private static void tape() {
        full("6 tape", FullTest::fullTape, 17, 160, x -> x.feed(0, 0, 0, 0, 0), x -> x.feed(-1, -1, -1, -1, -1));
        PitInspector x = fullTape();
        x.feed(0x20202020, 0x20202020, 0x20202020, 0x20202020, 0x20202020);
        Due.due("6 the refused bytes are not there", x.text(-1, 0, 0, 2), 0);
        Due.due("7 all are gone, also those that were not read", x.count(17), 0);
        Due.due("6 twenty again", x.feed(0x66323B66, 0x313B6631, 0x3B66313B, 0x66313B66, 0x313B6631), 20);
        Due.due("7 none but these", x.text(-1, 0, 0, 21), NONE);
        Due.due("7 these", x.text(-1, 0, 0, 20), 1);
    }

    /** What the office has on its tape is read first, with a fault, so that it is gone. */
    private static void texts() {
        PitInspector first = Town.office();
        first.text(NONE, 0, 0, 1);
        PitInspector x = filled(first, 4, 30, "7 text", (y, k) -> Due.text(y, k % 2 - 1, 0, 3472, "n(1=1);f" + k));
        Due.due("7 texts, all there", x.count(3), 30);
        Due.due("6 feed for one more", x.feed(0x66312020, 0x20202020, 0x20202020, 0x20202020, 0x20202020), 20);
        Due.due("7 one more act", x.text(NONE, 0, 0, 2), NONE);
        Due.due("7 one more rules", x.text(0, 0, 0, 2), NONE);
        Due.due("7 one more, with a fault", x.text(0, 0, 0, 20), NONE);
        Due.due("7 the tape stays", x.count(17), 20);
        Due.due("7 thirty still", x.count(3), 30);
        Due.due("8 the last counts", x.counts(29, 0), 2);
        Due.due("9 the last holds", x.holds(29, 0, 0), 1);
        Due.due("13 the last is within", x.within(29), 1);
        Due.due("8 no more", x.counts(30, 0), NONE);
        Due.due("9 no more", x.holds(30, 0, 0), NONE);
        Due.due("13 no more", x.within(30), NONE);
        Due.due("11 the last broken text", x.brokenAt(0, x.broken(0) - 1, 0), 29);
    }

    private static void clauses() {
        PitInspector x = Town.office();
        x.text(NONE, 0, 0, 1);
        Due.due("7 twelve clauses", Due.act(x, "f1;f2;f3;f4;f5;f6;f7;f8;f9;f10;f11;n(1=1)"), 4);
        Due.due("8 twelve count", x.counts(4, 0), 12);
        Due.due("9 the last clause", x.holds(4, 11, 0), 1);
        Due.due("9 none behind", x.holds(4, 12, 0), NONE);
        Due.due("7 a thirteenth", Due.act(x, "f1;f2;f3;f4;f5;f6;f7;f8;f9;f10;f11;f12;n(1=1)"), -4039);
        Due.due("7 it is no text", x.count(3), 5);
        StringBuilder longest = new StringBuilder("n(");
        while (longest.length() < 154) {
            longest.append("1=1&");
        }
        Due.due("7 a text of 160 bytes", Due.act(x, longest + "1=001)"), 5);
        Due.due("9 the longest holds", x.holds(5, 0, 0), 1);
        Due.due("7 the longest without an end", Due.act(x, longest + "1=001&"), -1160);
        Due.due("7 the longest with a sixth digit at its end", Due.act(x, longest + "000000"), -2159);
        Due.due("7 the longest with a wrong last byte", Due.act(x, longest + "1=001("), -1159);
    }

    private static PitInspector fullOfPlaces() {
        return filled(Town.office(), 10, 80, "14 place", (x, k) -> x.place(k % 3));
    }

    private static void places() {
        full("14 places", FullTest::fullOfPlaces, 4, 80, x -> x.place(0), x -> x.place(2), x -> x.place(3));
        PitInspector x = fullOfPlaces();
        Due.due("22 ways of the last place", x.ways(79), 0);
        Due.due("15 a road to the last place", x.road(4, 79, 1, false), 7);
        Due.due("22 a way from the last place", x.ways(79), 1);
        Due.due("17 a fan to the last place", x.fan(1, 4, 79, 9), true);
        Due.due("18 its air", x.air(7), 9);
        Due.due("52 seen at the last place", x.seen(4, 79, 55), 4);
        Due.due("54 it cannot be so soon", x.judge(1 << 2 | 1 << 4), 0);
    }

    private static PitInspector fullOfRoads() {
        return filled(Town.office(), 7, 150, "15 road", (x, k) -> x.road(k % 4, (k + 1) % 4, 1 + k % 100, k % 2 == 1));
    }

    private static void roads() {
        full("15 roads", FullTest::fullOfRoads, 5, 150, x -> x.road(0, 1, 1, false), x -> x.road(4, 5, 100, true),
            x -> x.road(0, 0, 1, false));
        PitInspector x = fullOfRoads();
        Due.due("16 the last door", x.door(149, true), true);
        Due.due("18 the last road", x.air(149) >= 0, true);
        Due.due("18 none behind", x.air(150), NONE);
        Due.due("20 the last trial", x.trial(149) != -2, true);
        Due.due("20 none behind", x.trial(150), -2);
        Due.due("16 no door behind", x.door(150, true), false);
        Due.due("23 the one road to place 9", x.fewest(0), 1);
    }

    private static PitInspector fullOfPlans() {
        return filled(Town.office(), 3, 15, "24 plan", (x, k) -> x.plan(k, k % 4, k, k));
    }

    private static void plans() {
        full("24 plans", FullTest::fullOfPlans, 6, 15, x -> x.plan(0, 0, 0, 0), x -> x.plan(1001, 0, 0, 0));
        PitInspector x = fullOfPlans();
        Due.due("25 shift the last", x.shift(14, 1, 1), true);
        Due.due("25 none behind", x.shift(15, 1, 1), false);
        Due.due("26 water on the last", x.water(14, 1, 1), 2);
        Due.due("27 a face on the last", x.face(2, 14, 1, 2), 2);
        Due.due("28 the last plan's error once", x.yards(2, 2, 1), 1 + 14);
        Due.due("31 a join of the last two", x.join(13, 0, 0, 14, 0, 0, 0), 2);
    }

    private static PitInspector fullOfWater() {
        return filled(Town.office(), 2, 30, "26 water", (x, k) -> x.water(k % 3, 10 * k, -10 * k));
    }

    private static void waters() {
        full("26 old water", FullTest::fullOfWater, 7, 30, x -> x.water(0, 0, 0), x -> x.water(2, 1, 1));
        PitInspector x = fullOfWater();
        Due.due("28 the last water", x.yards(1, 29, 0) >= 0, true);
        Due.due("28 none behind", x.yards(1, 30, 0), NONE);
        Due.due("29 the last is nearest", x.face(2, 2, 290, -290) == 2 && x.nearest(2, false) == 0, true);
    }

    private static PitInspector fullOfFaces() {
        return filled(Town.office(), 2, 30, "27 face", (x, k) -> x.face(k % 3, k % 3, 5000 + k, 10 * k));
    }

    private static void faces() {
        full("27 faces", FullTest::fullOfFaces, 8, 30, x -> x.face(0, 0, 0, 0), x -> x.face(2, 2, 1, 1));
        PitInspector x = fullOfFaces();
        Due.due("29 the last face", x.nearest(29, false) >= 0, true);
        Due.due("29 none behind", x.nearest(30, false), NONE);
        Due.due("28 none behind", x.yards(30, 0, 0), NONE);
        Due.due("30 the last face comes near", x.moves(2, -283, 5031, 30) >> 29, 1);
    }

    private static PitInspector fullOfJoins() {
        return filled(Town.office(), 2, 30, "31 join", (x, k) -> x.join(0, 0, 0, 1, 5, -5, k == 29 ? 0 : 5));
    }

    private static void joins() {
        full("31 joins", FullTest::fullOfJoins, 9, 30, x -> x.join(0, 0, 0, 1, 0, 0, 5), x -> x.join(1, 9, 9, 2, 9, 9, 0));
        PitInspector x = new PitInspector();
        x.plan(0, 0, 0, 0);
        x.plan(0, 0, 0, 0);
        filled(x, 0, 30, "31 join", (y, k) -> y.join(0, 0, 0, 1, k == 29 ? 1 : 0, 0, 0));
        Due.due("32 the last alone is torn", x.torn(), 29);
        x.shift(1, -1, 0);
        Due.due("32 the last alone holds", x.torn(), 0);
    }

    private static PitInspector fullOfLamps() {
        return filled(Town.office(), 4, 60, "33 lamp", (x, k) -> x.lamp(k % 10));
    }

    private static void lamps() {
        full("33 lamps", FullTest::fullOfLamps, 10, 60, x -> x.lamp(0), x -> x.lamp(9), x -> x.lamp(10));
        PitInspector x = fullOfLamps();
        Due.due("34 with one behind", x.down(0, 60), false);
        Due.due("34 with the last", x.down(0, 59), true);
        Due.due("56 it has the last", x.about(0, 3), 59);
        Due.due("38 of the last lamp's lot", x.had(9, 3000, 0), 1 | 8);
    }

    private static void handsBelow() {
        PitInspector x = new PitInspector();
        x.pit(0, 0, 0, 40);
        for (int h = 0; h < 40; h++) {
            x.hand(0, 3);
            x.lamp(h % 10);
        }
        for (int h = 0; h < 40; h++) {
            Due.due("34 down " + h, x.down(h, h), true);
        }
        Due.due("57 forty below", x.count(20), 40);
        Due.due("38 four of a lot", x.had(9, 0, 0), 1 << 9 | 1 << 19);
        Due.due("38 four of a lot, half 1", x.had(9, 0, 1), 1 << 9 | 1 << 19);
        Due.act(x, "d(b=40);d(l=40)");
        Due.due("9 all below", x.holds(0, 0, 0), 1);
        Due.due("9 all lamps out", x.holds(0, 1, 0), 1);
        for (int h = 0; h < 40; h++) {
            Due.due("35 up " + h, x.up(h), true);
        }
        Due.due("57 nobody below", x.count(20), 0);
        Due.due("57 forty outings", x.count(11), 40);
    }

    private static PitInspector fullOfShots() {
        PitInspector x = new PitInspector();
        x.pit(0, 0, 0, 0);
        x.hand(0, 3);
        x.hand(0, 3);
        x.down(0, NONE);
        for (int k = 0; k < 300; k++) {
            Due.due("39 shot " + k, x.shot(0), true);
        }
        return x;
    }

    private static void shots() {
        Town.refusedAtLast("39 one more shot", FullTest::fullOfShots, x -> Town.bit(x.shot(0)), 0);
        PitInspector x = fullOfShots();
        x.now(61);
        Due.due("39 one more in a later hour", x.shot(0), false);
        x.down(1, NONE);
        Due.due("39 one more by another", x.shot(1), false);
        Due.due("57 three hundred", x.count(12), 300);
        Due.due("40 all in the first hour", x.shots(0, 0, 1), 300);
        Due.due("40 none in the second", x.shots(0, 1, 2), 0);
        Due.act(x, "d(q=300)");
        Due.due("9 all of the day", x.holds(0, 0, 0), 1);
    }

    private static PitInspector fullOfWarnings() {
        return filled(Town.office(), 3, 60, "41 warning", (x, k) -> x.warn(k % 7));
    }

    private static void warnings() {
        full("41 warnings", FullTest::fullOfWarnings, 13, 60, x -> x.warn(0), x -> x.warn(6), x -> x.warn(7));
        PitInspector x = fullOfWarnings();
        Due.due("44 the last", x.knew(59, 3000, 0), 1 << 3);
        Due.due("44 none behind", x.knew(60, 3000, 0), NONE);
        Due.due("45 none behind", x.late(60, 0), NONE);
        Due.due("42 tell of the last", x.tell(59, 3, 0), true);
        Due.due("43 act on the last", x.act(59, 3), true);
        Due.due("42 none behind", x.tell(60, 3, 0), false);
        Due.due("43 none behind", x.act(60, 3), false);
    }

    private static PitInspector fullOfFalls() {
        PitInspector x = Town.office();
        for (int k = 3; k < 200; k++) {
            Due.due("46 fall " + k, x.fall(k % 3), true);
        }
        return x;
    }

    private static void falls() {
        for (int p = 0; p < 3; p++) {
            int pit = p;
            Town.refusedWhenFull("46 one more in " + p, FullTest::fullOfFalls, x -> Town.bit(x.fall(pit)), 0);
        }
        Due.due("57 two hundred", fullOfFalls().count(14), 200);
    }

    private static void looks() {
        PitInspector x = fullOfPits();
        Due.due("50 more than there are pits", x.send(13, 0, 0), NONE);
        Due.due("51 the looks stay", x.count(15), 3);
        Due.due("50 to all pits, none drawn", x.send(12, 0, 0), 0);
        Due.due("57 twelve looks", x.count(15), 12);
        Due.due("51 the last look", x.look(11, 0) >= 0, true);
        Due.due("51 none behind", x.look(12, 0), NONE);
        Due.due("50 all of twelve by the first seed", x.send(12, 100, 0), 12);
        int pits = 0;
        for (int k = 0; k < 12; k++) {
            pits |= 1 << x.look(k, 0);
        }
        Due.due("51 each pit once", pits, 4095);
    }

    private static PitInspector fullOfSeen() {
        return filled(Town.office(), 4, 16, "52 seen", (x, k) -> x.seen(0, k % 4, 3000));
    }

    private static void seen() {
        full("52 seen", FullTest::fullOfSeen, 16, 16, x -> x.seen(0, 0, 0), x -> x.seen(4, 4, 3000), x -> x.seen(0, 0, 3001));
        PitInspector x = fullOfSeen();
        Due.due("54 all of them", x.judge(65535), 0);
        Due.due("54 the last alone", x.judge(1 << 15), 1);
        Due.due("54 one behind", x.judge(1 << 16), NONE);
        Due.due("54 all and one behind", x.judge(131071), NONE);
        PitInspector y = Town.office();
        for (int k = 4; k < 16; k++) {
            y.seen(5, 4, 10 * k);
        }
        Due.due("55 all of sixteen", y.most(), 65535);
        Due.due("54 as it is judged", y.judge(65535), 1);
        y.pace(8);
        Due.due("55 all but the clash of the first two", y.most(), 65535 & ~2);
        Due.due("54 all with that clash", y.judge(65535), 0);
        Due.due("54 all without it", y.judge(65535 & ~2), 1);
    }
}
