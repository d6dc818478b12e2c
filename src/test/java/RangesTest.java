/**
 * Promises 2 to 57: of each number that a call is given the last one taken and the first one refused, on both sides,
 * the farthest ones too; and that a call so refused changes nothing.
 */
final class RangesTest {
    private static final int NONE = -1;

    public static void main(String[] args) {
        minutesPitsAndHands();
        texts();
        textsAsked();
        nets();
        plans();
        points();
        menAndLamps();
        shotsAndHours();
        warnings();
        fallsAndLooks();
        inquest();
        toldOfAll();
        Due.end("RangesTest");
    }

    private static void minutesPitsAndHands() {
        Town.range("2 now", PitInspector::new, (x, n) -> Town.bit(x.now(n)), 0, 5000000, 0);
        Town.range("2 now, from NOW on", (x, n) -> Town.bit(x.now(n)), 3000, 5000000, 0);
        Town.range("3 pit, seam", (x, n) -> x.pit(n, 1, 1, 1), 0, 7, NONE);
        Town.range("3 pit, depth", (x, n) -> x.pit(1, n, 1, 1), 0, 2000, NONE);
        Town.range("3 pit, gas", (x, n) -> x.pit(1, 1, n, 1), 0, 100, NONE);
        Town.range("3 pit, men", (x, n) -> x.pit(1, 1, 1, n), 0, 2000, NONE);
        Town.range("4 told, pit", (x, n) -> Town.bit(x.told(n, 0, 9)), 0, 2, 0);
        Town.range("4 told, what", (x, n) -> Town.bit(x.told(0, n, 9)), 0, 1, 0);
        Town.range("4 told, gas", (x, n) -> Town.bit(x.told(0, 0, n)), 0, 100, 0);
        Town.range("4 told, men", (x, n) -> Town.bit(x.told(0, 1, n)), 0, 2000, 0);
        Town.range("5 hand, pit", (x, n) -> x.hand(n, 1), 0, 2, NONE);
        Town.range("5 hand, duty", (x, n) -> x.hand(0, n), 0, 4, NONE);
    }

    private static PitInspector fullTape() {
        PitInspector x = Town.office();
        for (int k = 0; k < 6; k++) {
            x.feed(0x20202020, 0x20202020, 0x20202020, 0x20202020, 0x20202020);
        }
        return x;
    }

    private static void texts() {
        Town.range("7 text, pit or act", (x, n) -> x.text(n, 0, 1, 2), NONE, 2, NONE);
        Town.range("7 text, from", (x, n) -> x.text(0, n, 3472, 2), 0, 3472, NONE);
        Town.range("7 text, from up to the second day", (x, n) -> x.text(0, n, 70, 2), 0, 70, NONE);
        Town.range("7 text, to", (x, n) -> x.text(0, 0, n, 2), 0, 3472, NONE);
        Town.range("7 text, to from the first day on", (x, n) -> x.text(0, 70, n, 2), 70, 3472, NONE);
        Town.range("7 text, bytes of forty", (x, n) -> x.text(0, 0, 1, n), 1, 40, NONE);
        Town.range("7 text, bytes of a full tape", RangesTest::fullTape, (x, n) -> x.text(0, 0, 1, n), 1, 160, NONE);
        Town.refused("7 text of an empty tape, no byte", PitInspector::new, x -> x.text(-1, 0, 1, 0), NONE);
        Town.refused("7 text of an empty tape, one byte", PitInspector::new, x -> x.text(-1, 0, 1, 1), NONE);
    }

    /** Three by pit 0, one by each other. */
    private static PitInspector brokenByAll() {
        PitInspector x = new PitInspector();
        for (int p = 0; p < 3; p++) {
            x.pit(0, 0, 0, 0);
        }
        Due.act(x, "d(1=2)");
        Due.rules(x, 0, "d(1=2);n(1=1)");
        Due.feed(x, "f1");
        return x;
    }

    private static void textsAsked() {
        Town.range("8 counts, text", (x, n) -> x.counts(n, 0), 0, 3, NONE);
        Town.range("8 counts, pit", (x, n) -> x.counts(0, n), 0, 2, NONE);
        Town.range("9 holds, text", (x, n) -> x.holds(n, 0, 0), 0, 3, NONE);
        Town.range("9 holds, clause", (x, n) -> x.holds(0, n, 0), 0, 4, NONE);
        Town.range("9 holds, clause of two", (x, n) -> x.holds(2, n, 0), 0, 1, NONE);
        Town.range("9 holds, pit", (x, n) -> x.holds(0, 0, n), 0, 2, NONE);
        Town.range("10 broken", (x, n) -> x.broken(n), 0, 2, NONE);
        Town.range("11 brokenAt, pit", RangesTest::brokenByAll, (x, n) -> x.brokenAt(n, 0, 0), 0, 2, NONE);
        Town.range("11 brokenAt, k of three", RangesTest::brokenByAll, (x, n) -> x.brokenAt(0, n, 0), 0, 2, NONE);
        Town.range("11 brokenAt, k of one", RangesTest::brokenByAll, (x, n) -> x.brokenAt(1, n, 1), 0, 0, NONE);
        Town.range("11 brokenAt, what", RangesTest::brokenByAll, (x, n) -> x.brokenAt(0, 1, n), 0, 1, NONE);
        Town.range("12 fine", (x, n) -> x.fine(n), 0, 2, NONE);
        Town.range("13 within, rules behind an act", (x, n) -> x.within(n), 1, 3, NONE);
    }

    private static void nets() {
        Town.range("14 place", (x, n) -> x.place(n), 0, 2, NONE);
        Town.range("15 road, a", (x, n) -> x.road(n, 1, 1, false), 0, 9, NONE);
        Town.range("15 road, b", (x, n) -> x.road(1, n, 1, false), 0, 9, NONE);
        Town.range("15 road, a of the next pit", (x, n) -> x.road(n, 4, 1, true), 5, 6, NONE);
        Town.range("15 road, b of the next pit", (x, n) -> x.road(6, n, 1, true), 4, 5, NONE);
        Town.range("15 road, width", (x, n) -> x.road(0, 1, n, false), 1, 100, NONE);
        Town.range("16 door", (x, n) -> Town.bit(x.door(n, true)), 0, 6, 0);
        Town.range("17 fan, pit", (x, n) -> Town.bit(x.fan(n, 0, 1, 5)), 0, 0, 0);
        Town.range("17 fan, the next pit", (x, n) -> Town.bit(x.fan(n, 5, 4, 5)), 1, 1, 0);
        Town.range("17 fan, down", (x, n) -> Town.bit(x.fan(0, n, 1, 5)), 0, 9, 0);
        Town.range("17 fan, up", (x, n) -> Town.bit(x.fan(0, 1, n, 5)), 0, 9, 0);
        Town.range("17 fan, air", (x, n) -> Town.bit(x.fan(0, 0, 1, n)), 0, 1000000, 0);
        Town.range("18 air", (x, n) -> x.air(n), 0, 6, NONE);
        Town.range("19 least", (x, n) -> x.least(n), 0, 2, -2);
        Town.range("20 trial", (x, n) -> x.trial(n), 0, 6, -2);
        Town.range("21 worst", (x, n) -> x.worst(n), 0, 2, NONE);
        Town.range("22 ways, behind a bank", (x, n) -> x.ways(n), 1, 9, NONE);
        Town.range("23 fewest", (x, n) -> x.fewest(n), 0, 2, -2);
    }

    private static void plans() {
        int far = 100000;
        Town.range("24 plan, error", (x, n) -> x.plan(n, 0, 0, 0), 0, 1000, NONE);
        Town.range("24 plan, turn", (x, n) -> x.plan(0, n, 0, 0), 0, 3, NONE);
        Town.range("24 plan, x", (x, n) -> x.plan(0, 0, n, 0), -far, far, NONE);
        Town.range("24 plan, y", (x, n) -> x.plan(0, 0, 0, n), -far, far, NONE);
        Town.range("25 shift, plan", (x, n) -> Town.bit(x.shift(n, 1, 1)), 0, 2, 0);
        Town.range("25 shift, x", (x, n) -> Town.bit(x.shift(1, n, 1)), -far, far, 0);
        Town.range("25 shift, y", (x, n) -> Town.bit(x.shift(1, 1, n)), -far, far, 0);
        Town.range("30 moves, plan", (x, n) -> x.moves(n, 1, 1, 50), 0, 2, NONE);
        Town.range("30 moves, x", (x, n) -> x.moves(1, n, 1, 50), -far, far, NONE);
        Town.range("30 moves, y", (x, n) -> x.moves(1, 1, n, 50), -far, far, NONE);
        Town.range("30 moves, yards", (x, n) -> x.moves(1, 1, 1, n), 1, 99999, NONE);
        Town.range("31 join, a", (x, n) -> x.join(n, 0, 0, 1, 0, 0, 5), 0, 2, NONE);
        Town.range("31 join, ax", (x, n) -> x.join(0, n, 0, 1, 0, 0, 5), -far, far, NONE);
        Town.range("31 join, ay", (x, n) -> x.join(0, 0, n, 1, 0, 0, 5), -far, far, NONE);
        Town.range("31 join, b", (x, n) -> x.join(1, 0, 0, n, 0, 0, 5), 0, 2, NONE);
        Town.range("31 join, bx", (x, n) -> x.join(0, 0, 0, 1, n, 0, 5), -far, far, NONE);
        Town.range("31 join, by", (x, n) -> x.join(0, 0, 0, 1, 0, n, 5), -far, far, NONE);
        Town.range("31 join, error", (x, n) -> x.join(0, 0, 0, 1, 0, 0, n), 0, 1000, NONE);
    }

    private static void points() {
        int far = 100000;
        Town.range("26 water, plan", (x, n) -> x.water(n, 1, 1), 0, 2, NONE);
        Town.range("26 water, x", (x, n) -> x.water(1, n, 1), -far, far, NONE);
        Town.range("26 water, y", (x, n) -> x.water(1, 1, n), -far, far, NONE);
        Town.range("27 face, pit", (x, n) -> x.face(n, 0, 1, 1), 0, 2, NONE);
        Town.range("27 face, plan", (x, n) -> x.face(0, n, 1, 1), 0, 2, NONE);
        Town.range("27 face, x", (x, n) -> x.face(0, 1, n, 1), -far, far, NONE);
        Town.range("27 face, y", (x, n) -> x.face(0, 1, 1, n), -far, far, NONE);
        Town.range("28 yards, face", (x, n) -> x.yards(n, 0, 0), 0, 1, NONE);
        Town.range("28 yards, water", (x, n) -> x.yards(0, n, 1), 0, 1, NONE);
        Town.range("28 yards, what", (x, n) -> x.yards(0, 0, n), 0, 1, NONE);
        Town.range("29 nearest, face", (x, n) -> x.nearest(n, false), 0, 1, NONE);
        Town.range("29 nearest, pit", (x, n) -> x.nearest(n, true), 0, 2, NONE);
    }

    private static long downAndUp(PitInspector x, int h) {
        x.down(h, NONE);
        return Town.bit(x.up(h));
    }

    private static void menAndLamps() {
        Town.range("33 lamp", (x, n) -> x.lamp(n), 0, 9, NONE);
        Town.range("34 down, hand", (x, n) -> Town.bit(x.down(n, 0)), 0, 6, 0);
        Town.range("34 down, lamp or none", (x, n) -> Town.bit(x.down(0, n)), NONE, 3, 0);
        Town.range("35 up", RangesTest::downAndUp, 0, 6, 0);
        Town.range("36 differs", (x, n) -> x.differs(n), 0, 2, -100000);
        Town.range("37 book, pit", (x, n) -> Town.bit(x.book(n, 9)), 0, 2, 0);
        Town.range("37 book, men", (x, n) -> Town.bit(x.book(0, n)), 0, 2000, 0);
        Town.range("38 had, lot", (x, n) -> x.had(n, 50, 0), 0, 9, NONE);
        Town.range("38 had, minute", (x, n) -> x.had(9, n, 0), 0, 3000, NONE);
        Town.range("38 had, half", (x, n) -> x.had(9, 50, n), 0, 1, NONE);
    }

    private static long downAndShot(PitInspector x, int h) {
        x.down(h, NONE);
        return Town.bit(x.shot(h));
    }

    private static void shotsAndHours() {
        Town.range("39 shot", RangesTest::downAndShot, 0, 6, 0);
        Town.range("40 shots, pit", (x, n) -> x.shots(n, 0, 24), 0, 2, NONE);
        Town.range("40 shots, from", (x, n) -> x.shots(1, n, 24), 0, 24, NONE);
        Town.range("40 shots, from up to the second hour", (x, n) -> x.shots(1, n, 7), 0, 7, NONE);
        Town.range("40 shots, to", (x, n) -> x.shots(1, 0, n), 0, 24, NONE);
        Town.range("40 shots, to from the first hour on", (x, n) -> x.shots(1, 7, n), 7, 24, NONE);
    }

    private static long toldOnBy(PitInspector x, int h) {
        x.tell(1, 2, h);
        return Town.bit(x.tell(1, h, 3));
    }

    private static long toldAndActs(PitInspector x, int h) {
        x.tell(1, 2, h);
        return Town.bit(x.act(1, h));
    }

    private static void warnings() {
        Town.range("41 warn", (x, n) -> x.warn(n), 0, 6, NONE);
        Town.range("42 tell, warning", (x, n) -> Town.bit(x.tell(n, 0, 3)), 0, 0, 0);
        Town.range("42 tell, the last warning", (x, n) -> Town.bit(x.tell(n, 0, 3)), 2, 2, 0);
        Town.range("42 tell, who tells", RangesTest::toldOnBy, 0, 6, 0);
        Town.range("42 tell, who is told", (x, n) -> Town.bit(x.tell(1, 2, n)), 0, 0, 0);
        Town.range("42 tell, the last who is told", (x, n) -> Town.bit(x.tell(1, 2, n)), 6, 6, 0);
        Town.range("43 act, warning", (x, n) -> Town.bit(x.act(n, 0)), 0, 0, 0);
        Town.range("43 act, the last warning", (x, n) -> Town.bit(x.act(n, 0)), 2, 2, 0);
        Town.range("43 act, hand", RangesTest::toldAndActs, 0, 0, 0);
        Town.range("43 act, the last hand", RangesTest::toldAndActs, 6, 6, 0);
        Town.range("44 knew, warning", (x, n) -> x.knew(n, 3000, 0), 0, 2, NONE);
        Town.range("44 knew, minute", (x, n) -> x.knew(0, n, 0), 0, 5000000, NONE);
        Town.range("44 knew, half", (x, n) -> x.knew(0, 3000, n), 0, 1, NONE);
        Town.range("45 late, warning", (x, n) -> x.late(n, 0), 0, 2, NONE);
        Town.range("45 late, half", (x, n) -> x.late(0, n), 0, 1, NONE);
    }

    private static void fallsAndLooks() {
        Town.range("46 fall", (x, n) -> Town.bit(x.fall(n)), 0, 2, 0);
        Town.range("47 beyond", (x, n) -> x.beyond(n), 0, 7, NONE);
        Town.range("48 inspectors", (x, n) -> Town.bit(x.inspectors(n)), 1, 16, 0);
        Town.range("49 worth", (x, n) -> x.worth(n), 0, 2, NONE);
        Town.range("50 send, looks", (x, n) -> x.send(n, 50, 1), 1, 3, NONE);
        Town.range("50 send, share", (x, n) -> x.send(2, n, 1), 0, 100, NONE);
        Town.range("50 send, seed", (x, n) -> x.send(2, 50, n), 0, 134455, NONE);
        Town.range("51 look, k", (x, n) -> x.look(n, 0), 0, 2, NONE);
        Town.range("51 look, what", (x, n) -> x.look(0, n), 0, 1, NONE);
    }

    private static void inquest() {
        Town.range("52 seen, hand", (x, n) -> x.seen(n, 0, 1), 0, 6, NONE);
        Town.range("52 seen, place", (x, n) -> x.seen(0, n, 1), 0, 9, NONE);
        Town.range("52 seen, place of the next pit", (x, n) -> x.seen(4, n, 1), 4, 6, NONE);
        Town.range("52 seen, minute", (x, n) -> x.seen(0, 0, n), 0, 3000, NONE);
        Town.range("53 pace", (x, n) -> Town.bit(x.pace(n)), 1, 60, 0);
        Town.range("54 judge", (x, n) -> x.judge(n), 0, 15, NONE);
        Town.range("54 judge, nothing seen", PitInspector::new, (x, n) -> x.judge(n), 0, 0, NONE);
    }

    private static void toldOfAll() {
        Town.range("56 about, hand", (x, n) -> x.about(n, 0), 0, 6, NONE);
        Town.range("56 about, what", (x, n) -> x.about(3, n), 0, 3, NONE);
        Town.range("57 count", (x, n) -> x.count(n), 0, 17, NONE);
        Town.range("57 count, below", (x, n) -> x.count(n), 20, 22, NONE);
        Town.refused("57 count, 19", x -> x.count(19), NONE);
    }
}
