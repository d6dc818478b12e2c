import java.util.function.Supplier;

/**
 * Refusals by other things than a number out of its range or a limit: each answers so and changes nothing, but that a
 * text with a fault empties the tape.
 */
final class RefusedTest {
    private static final int NONE = -1;

    public static void main(String[] args) {
        rulesAndActs();
        faultsEmptyTheTape();
        faultsLeaveNothingBehind();
        tapeStays();
        roadsAndFans();
        banksAndPlans();
        downAndUp();
        shots();
        telling();
        acting();
        looks();
        seen();
        whatIsAsked();
        Due.end("RefusedTest");
    }

    private static void not(String name, Town.Call call) {
        Town.refused(name, call, 0);
    }

    private static void none(String name, Town.Call call) {
        Town.refused(name, call, NONE);
    }

    private static void rulesAndActs() {
        none("13 within of an act", x -> x.within(0));
        none("7 a second day ahead of the first", x -> x.text(0, 5, 4, 2));
        Due.due("7 the same day", Town.office().text(0, 5, 5, 2), 4);
    }

    private static void fault(String text, int want) {
        Supplier<PitInspector> made = () -> {
            PitInspector x = Town.office();
            x.text(NONE, 0, 0, 1);
            return x;
        };
        PitInspector x = made.get();
        Due.feed(x, text);
        Due.due("7 tape ahead of " + text, x.count(17) >= text.length(), true);
        Due.due("7 fault of " + text, x.text(NONE, 0, 3472, text.length()), want);
        Due.due("7 tape behind " + text, x.count(17), 0);
        Due.due("7 nothing else by " + text, Town.ask(x).equals(Town.ask(made.get())), true);
        PitInspector y = made.get();
        Due.due("7 nothing else later by " + text, Town.stir(x).equals(Town.stir(y)), true);
        Due.due("7 nothing else at all by " + text, Town.ask(x).equals(Town.ask(y)), true);
    }

    private static void faultsEmptyTheTape() {
        fault("q", -1000);
        fault("f000000", -2006);
        fault("x30.0", -3001);
        fault("x0.0;f1;f1;f1;f1;f1;f1;f1;f1;f1;f1;f1;x0.0", -4038);
        fault("d(((((((g=1)))))))", -5007);
        fault("x0.0;x1.0;x2.0;x3.0;n(1=1);f99999;d(a=o+w+q", -1043);
    }

    /** What was read of a text up to its fault is not there in the next one, be it shorter or as long as can be. */
    private static void faultsLeaveNothingBehind() {
        String[] faulty = {"f1;w(1=1)0;f9;n(1=1);x0.0;q", "w(1=1)0;w(1=1)0;w(1=1)0;f9;f9;f9;n(1=1);n(1=1);n(1=1);d(1=2);d(1=2);d(1=2);",
            "n(1=1&1=1&1=1&1=1|1=2", "f9;f9;w(1=1)"};
        String[] next = {"f1", "n(1=1)", "x0.0", "f1;f1;f1;f1;f1;f1;f1;f1;f1;f1;f1;n(1=1)"};
        int[] broken = {0, 1, 0, 1};
        int[] fine = {0, 0, 0, 1};
        for (String wrong : faulty) {
            for (int k = 0; k < next.length; k++) {
                PitInspector x = new PitInspector();
                x.pit(0, 0, 0, 0);
                x.hand(0, 0);
                x.warn(0);
                x.now(1000);
                Due.act(x, "f7");
                Due.due("7 a fault", Due.act(x, wrong) < -999, true);
                Due.due("7 the next", Due.act(x, next[k]), 1);
                Due.due("10 broken behind a fault", x.broken(0), broken[k]);
                Due.due("12 fine behind a fault", x.fine(0), fine[k]);
                Due.due("45 no w behind a fault", x.late(0, 0), 0);
                Due.due("8 struck behind a fault", x.counts(0, 0), next[k].equals("x0.0") ? 0 : 1);
                Due.due("8 its clauses behind a fault", x.counts(1, 0), k == 3 ? 12 : 1);
                Due.due("9 none more behind a fault", x.holds(1, k == 3 ? 12 : 1, 0), NONE);
            }
        }
    }

    private static void tapeStays() {
        String[] names = {"no pit", "from", "to", "no byte", "too many bytes"};
        int[][] wrong = {{3, 0, 0, 2}, {-1, -1, 0, 2}, {-1, 0, 3473, 2}, {-1, 0, 0, 0}, {-1, 0, 0, 41}};
        for (int k = 0; k < wrong.length; k++) {
            int[] w = wrong[k];
            PitInspector x = Town.office();
            Due.due("7 refused: " + names[k], x.text(w[0], w[1], w[2], w[3]), NONE);
            Due.due("7 the tape stays: " + names[k], x.count(17), 40);
            Due.due("7 its bytes stay: " + names[k], x.text(-1, 0, 3472, 16), 4);
            Due.due("8 three clauses: " + names[k], x.counts(4, 0), 3);
        }
    }

    private static void roadsAndFans() {
        none("15 one place twice", x -> x.road(1, 1, 1, false));
        none("15 two pits", x -> x.road(0, 4, 1, false));
        none("15 two pits, the other way", x -> x.road(4, 0, 1, true));
        none("15 no such place", x -> x.road(0, 10, 1, true));
        not("16 a road without a door, open", x -> Town.bit(x.door(1, true)));
        not("16 a road without a door, shut", x -> Town.bit(x.door(1, false)));
        not("17 one place twice", x -> Town.bit(x.fan(0, 1, 1, 5)));
        not("17 down of another pit", x -> Town.bit(x.fan(0, 4, 1, 5)));
        not("17 up of another pit", x -> Town.bit(x.fan(0, 1, 4, 5)));
        not("17 both of another pit", x -> Town.bit(x.fan(0, 4, 5, 5)));
        not("17 one above the most air", x -> Town.bit(x.fan(0, 0, 1, 1000001)));
        Town.refused("20 trial of a road without a door", x -> x.trial(1), -2);
        Town.refused("20 trial of the next one", x -> x.trial(5), -2);
    }

    private static void banksAndPlans() {
        none("22 ways of the first bank", x -> x.ways(0));
        none("22 ways of the second bank", x -> x.ways(4));
        none("22 ways of the third bank", x -> x.ways(7));
        none("31 a join of one plan", x -> x.join(0, 0, 0, 0, 0, 0, 5));
        none("31 a join of the last plan", x -> x.join(2, 1, 1, 2, 0, 0, 5));
        none("31 a join of no plan twice", x -> x.join(3, 1, 1, 3, 0, 0, 5));
    }

    private static void downAndUp() {
        not("34 is below, with a lamp", x -> Town.bit(x.down(3, 0)));
        not("34 is below, its own lamp", x -> Town.bit(x.down(3, 1)));
        not("34 is below, without", x -> Town.bit(x.down(4, NONE)));
        not("34 the lamp is out", x -> Town.bit(x.down(0, 1)));
        not("34 the lamp is out in another pit", x -> Town.bit(x.down(5, 1)));
        not("35 never was below", x -> Town.bit(x.up(0)));
        not("35 was up before", x -> Town.bit(x.up(2)));
        PitInspector x = Town.office();
        Due.due("35 up", x.up(3), true);
        Due.due("35 up twice", x.up(3), false);
        Due.due("34 with the lamp that is back", x.down(5, 1), true);
    }

    private static void shots() {
        not("39 a shotman who is not below", x -> Town.bit(x.shot(0)));
        not("39 a fireman who is below", x -> Town.bit(x.shot(3)));
        for (int duty = 0; duty < 5; duty++) {
            int of = duty;
            PitInspector x = Town.office();
            x.hand(2, of);
            x.down(7, NONE);
            Due.due("39 by duty " + duty, x.shot(7), duty == 3);
            Due.due("39 shots after duty " + duty, x.count(12), duty == 3 ? 2 : 1);
        }
    }

    private static void telling() {
        not("42 who does not know it", x -> Town.bit(x.tell(0, 1, 2)));
        not("42 whom it was told before", x -> Town.bit(x.tell(1, 2, 1)));
        not("42 who gave it", x -> Town.bit(x.tell(1, 1, 2)));
        not("42 oneself", x -> Town.bit(x.tell(0, 0, 0)));
        not("42 oneself, not knowing it", x -> Town.bit(x.tell(0, 6, 6)));
        not("42 of another pit", x -> Town.bit(x.tell(0, 0, 4)));
        not("42 one of another pit tells", x -> Town.bit(x.tell(0, 4, 1)));
        not("42 two of another pit", x -> Town.bit(x.tell(0, 4, 5)));
    }

    private static void acting() {
        not("43 does not know it", x -> Town.bit(x.act(0, 1)));
        not("43 of another pit", x -> Town.bit(x.act(0, 4)));
        not("43 has acted", x -> Town.bit(x.act(1, 1)));
    }

    private static void looks() {
        none("50 no looks", x -> x.send(0, 0, 0));
        none("50 more looks than pits", x -> x.send(4, 100, 0));
        not("48 no inspector", x -> Town.bit(x.inspectors(0)));
        not("48 a 17th", x -> Town.bit(x.inspectors(17)));
        none("51 a look that was not sent", x -> x.look(3, 0));
        PitInspector x = Town.office();
        x.send(1, 0, 0);
        Due.due("51 of those sent last", x.look(0, 0), 0);
        Due.due("51 none of those sent before", x.look(1, 0), NONE);
    }

    private static void seen() {
        none("52 a place of another pit", x -> x.seen(0, 4, 5));
        none("52 a hand of another pit", x -> x.seen(4, 0, 5));
        none("52 a place of a pit without hands", x -> x.seen(0, 7, 5));
        none("52 a minute behind now", x -> x.seen(0, 0, 3001));
        none("54 a row that is not there", x -> x.judge(16));
        none("54 one that is there and one that is not", x -> x.judge(17));
    }

    /** What asks changes nothing either, whatever it answers. */
    private static void whatIsAsked() {
        Town.refused("20 a trial leaves the door", x -> x.trial(0) * 0L, 0);
        Town.refused("21 the worst door leaves all doors", x -> x.worst(0) * 0L, 0);
        Town.refused("30 moves leave the plan", x -> x.moves(0, 99, -99, 500) * 0L, 0);
        Town.refused("55 the most leaves all rows", x -> x.most() * 0L, 0);
        Town.refused("23 the fewest ways leave all roads", x -> x.fewest(0) * 0L, 0);
        Town.refused("45 late leaves who acted", x -> x.late(1, 0) * 0L, 0);
    }
}
