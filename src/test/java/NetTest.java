/** Promises 14 to 23: places, roads, doors and fans; air and its trials; ways out. */
final class NetTest {
    public static void main(String[] args) {
        places();
        roads();
        doors();
        fans();
        airIsSplit();
        airIsLeft();
        airWithoutWay();
        leastAndTrials();
        worstDoors();
        pitsApart();
        waysOut();
        fewestWays();
        Due.end("NetTest");
    }

    /** An office with some pits, and so many places of pit 0. */
    private static PitInspector office(int pits, int places) {
        PitInspector x = new PitInspector();
        for (int p = 0; p < pits; p++) {
            x.pit(0, 0, 0, 0);
        }
        for (int k = 0; k < places; k++) {
            x.place(0);
        }
        return x;
    }

    private static void airs(PitInspector x, int... want) {
        for (int r = 0; r < want.length; r++) {
            Due.due("air of road " + r, x.air(r), want[r]);
        }
    }

    private static void places() {
        PitInspector x = office(2, 0);
        Due.due("pit 2", x.place(2), -1);
        Due.due("pit -1", x.place(-1), -1);
        for (int k = 0; k < 80; k++) {
            Due.due("place " + k, x.place(k % 2), k);
        }
        Due.due("an 81st", x.place(0), -1);
        Due.due("eighty", x.count(4), 80);
        Due.due("bank of 0", x.ways(0), -1);
        Due.due("bank of 1", x.ways(1), -1);
        Due.due("no bank", x.ways(2), 0);
        Due.due("the last", x.ways(79), 0);
        Due.due("none", x.ways(80), -1);
    }

    private static void roads() {
        PitInspector x = office(2, 3);
        x.place(1);
        Due.due("two pits", x.road(0, 3, 1, false), -1);
        Due.due("one twice", x.road(1, 1, 1, false), -1);
        Due.due("width 0", x.road(0, 1, 0, false), -1);
        Due.due("width 101", x.road(0, 1, 101, false), -1);
        Due.due("width -1", x.road(0, 1, -1, false), -1);
        Due.due("place 4", x.road(0, 4, 1, false), -1);
        Due.due("place 4 first", x.road(4, 0, 1, false), -1);
        Due.due("place -1", x.road(0, -1, 1, false), -1);
        Due.due("place -1 first", x.road(-1, 0, 1, false), -1);
        Due.due("none yet", x.count(5), 0);
        Due.due("the first road", x.road(2, 0, 1, true), 0);
        for (int r = 1; r < 150; r++) {
            Due.due("next road", x.road(r % 3, (r + 1) % 3, 100, r % 3 == 0), r);
        }
        Due.due("a 151st", x.road(0, 1, 1, false), -1);
        Due.due("hundred and fifty", x.count(5), 150);
    }

    private static void doors() {
        PitInspector x = office(1, 3);
        x.road(0, 1, 1, true);
        x.road(0, 1, 1, false);
        x.fan(0, 0, 1, 10);
        airs(x, 0, 10);
        Due.due("open", x.door(0, true), true);
        airs(x, 5, 5);
        Due.due("open again", x.door(0, true), true);
        airs(x, 5, 5);
        Due.due("shut", x.door(0, false), true);
        airs(x, 0, 10);
        Due.due("shut again", x.door(0, false), true);
        Due.due("has none", x.door(1, true), false);
        Due.due("has none to shut", x.door(1, false), false);
        Due.due("road 2", x.door(2, true), false);
        Due.due("road -1", x.door(-1, true), false);
        airs(x, 0, 10, -1);
    }

    private static void fans() {
        PitInspector x = office(2, 3);
        x.place(1);
        x.road(0, 1, 1, false);
        airs(x, 0);
        int[][] wrong = {{2, 0, 1, 5}, {-1, 0, 1, 5}, {0, 0, 0, 5}, {0, 0, 3, 5}, {0, 3, 0, 5}, {1, 0, 1, 5},
            {0, 0, 4, 5}, {0, 4, 0, 5}, {0, -1, 0, 5}, {0, 0, -1, 5}, {0, 0, 1, -1}, {0, 0, 1, 1000001}};
        for (int[] w : wrong) {
            Due.due("wrong fan", x.fan(w[0], w[1], w[2], w[3]), false);
        }
        Due.due("still none", x.least(0), -1);
        Due.due("the most air", x.fan(0, 0, 1, 1000000), true);
        airs(x, 1000000);
        Due.due("no air", x.fan(0, 0, 1, 0), true);
        Due.due("least of none", x.least(0), 0);
        Due.due("instead", x.fan(0, 1, 0, 8), true);
        Due.due("refused", x.fan(0, 0, 1, -1), false);
        airs(x, 8);
        Due.due("air(1)", x.air(1), -1);
        Due.due("air(-1)", x.air(-1), -1);
    }

    private static void airIsSplit() {
        PitInspector x = office(1, 7);
        x.road(0, 1, 100, false);
        x.road(0, 2, 50, false);
        x.road(2, 0, 50, false);
        x.road(1, 3, 7, false);
        x.road(2, 3, 9, false);
        x.road(1, 2, 100, false);
        x.road(3, 4, 1, false);
        x.road(4, 5, 1, false);
        x.road(0, 6, 9, false);
        x.fan(0, 0, 4, 1000);
        airs(x, 500, 250, 250, 500, 500, 0, 1000, 0, 0);
        Due.due("least", x.least(0), 0);
        x.fan(0, 4, 0, 1000);
        airs(x, 438, 281, 281, 438, 562, 0, 1000, 0, 0);
        x.fan(0, 6, 5, 16);
        airs(x, 8, 4, 4, 8, 8, 0, 16, 16, 16);
        x.fan(0, 3, 4, 16);
        airs(x, 0, 0, 0, 0, 0, 0, 16, 0, 0);
        x.fan(0, 0, 5, 1000000);
        airs(x, 500000, 250000, 250000, 500000, 500000, 0, 1000000, 1000000, 0);
        x = office(1, 5);
        x.road(1, 3, 1, false);
        x.road(2, 3, 1, false);
        x.road(3, 4, 1, false);
        x.road(0, 1, 1, false);
        x.road(0, 2, 1, false);
        x.fan(0, 0, 4, 10);
        airs(x, 5, 5, 10, 5, 5);
    }

    private static void airIsLeft() {
        PitInspector x = office(1, 2);
        x.road(0, 1, 1, false);
        x.road(1, 0, 1, false);
        x.road(0, 1, 1, false);
        x.road(1, 0, 4, false);
        x.fan(0, 0, 1, 6);
        airs(x, 1, 1, 1, 3);
        x.fan(0, 1, 0, 13);
        airs(x, 2, 2, 2, 7);
        x.fan(0, 0, 1, 3);
        airs(x, 1, 1, 0, 1);
        x.fan(0, 0, 1, 1);
        airs(x, 1, 0, 0, 0);
        x = office(1, 4);
        x.road(2, 3, 1, false);
        x.road(1, 3, 1, false);
        x.road(0, 2, 1, false);
        x.road(0, 1, 1, false);
        x.fan(0, 0, 3, 5);
        airs(x, 3, 2, 3, 2);
    }

    private static void airWithoutWay() {
        PitInspector x = office(1, 4);
        x.road(0, 1, 1, false);
        x.road(2, 3, 1, false);
        x.road(1, 2, 1, true);
        x.fan(0, 0, 3, 9);
        airs(x, 0, 0, 0);
        Due.due("least without a way", x.least(0), 0);
        x.door(2, true);
        airs(x, 9, 9, 9);
        Due.due("least with one", x.least(0), 9);
        x.road(0, 3, 1, false);
        airs(x, 0, 0, 0, 9);
        x = office(1, 5);
        x.road(4, 3, 1, false);
        x.road(3, 2, 1, true);
        x.road(2, 1, 1, false);
        x.road(1, 0, 1, true);
        x.fan(0, 0, 4, 9);
        airs(x, 0, 0, 0, 0);
        x.door(3, true);
        airs(x, 0, 0, 0, 0);
        x.door(1, true);
        airs(x, 9, 9, 9, 9);
    }

    private static void leastAndTrials() {
        PitInspector x = office(1, 2);
        Due.due("pit 1", x.least(1), -2);
        Due.due("pit -1", x.least(-1), -2);
        Due.due("no roads", x.least(0), -1);
        x.fan(0, 0, 1, 9);
        Due.due("no roads, a fan", x.least(0), -1);
        x.road(0, 1, 1, true);
        Due.due("no open roads", x.least(0), -1);
        Due.due("trial opens it", x.trial(0), 9);
        Due.due("and leaves it shut", x.air(0), 0);
        Due.due("least stays", x.least(0), -1);
        x.door(0, true);
        Due.due("least", x.least(0), 9);
        Due.due("trial shuts it", x.trial(0), -1);
        Due.due("and leaves it open", x.air(0), 9);
        x.road(0, 1, 1, false);
        Due.due("least of two", x.least(0), 4);
        Due.due("without the door", x.trial(0), 9);
        Due.due("no door", x.trial(1), -2);
        Due.due("trial(2)", x.trial(2), -2);
        Due.due("trial(-1)", x.trial(-1), -2);
        x = office(1, 2);
        x.road(0, 1, 1, true);
        Due.due("trial without a fan", x.trial(0), -1);
        x.door(0, true);
        Due.due("least without a fan", x.least(0), -1);
    }

    private static void worstDoors() {
        PitInspector x = office(2, 3);
        Due.due("none", x.worst(0), -1);
        Due.due("pit 2", x.worst(2), -1);
        Due.due("pit -1", x.worst(-1), -1);
        x.road(0, 1, 1, false);
        Due.due("no door", x.worst(0), -1);
        x.road(0, 1, 9, true);
        x.road(0, 1, 4, true);
        x.road(0, 1, 9, true);
        Due.due("without a fan all are alike", x.worst(0), 1);
        x.fan(0, 0, 1, 100);
        Due.due("trial 1", x.trial(1), 10);
        Due.due("trial 2", x.trial(2), 20);
        Due.due("trial 3", x.trial(3), 10);
        Due.due("the lowest of like ones", x.worst(0), 1);
        x.door(1, true);
        Due.due("open trial 1", x.trial(1), 100);
        Due.due("trial 2 with 1 open", x.trial(2), 8);
        Due.due("trial 3 with 1 open", x.trial(3), 6);
        Due.due("worst with 1 open", x.worst(0), 3);
        Due.due("air stays", x.air(0), 10);
        Due.due("pit 1 has none", x.worst(1), -1);
        x = office(1, 2);
        x.road(0, 1, 1, true);
        Due.due("the first road", x.worst(0), 0);
    }

    private static void pitsApart() {
        PitInspector x = office(2, 2);
        x.place(1);
        x.place(1);
        x.road(0, 1, 1, false);
        x.road(2, 3, 1, true);
        x.road(2, 3, 1, false);
        x.fan(0, 0, 1, 5);
        x.fan(1, 2, 3, 8);
        airs(x, 5, 0, 8);
        Due.due("least of 0", x.least(0), 5);
        Due.due("least of 1", x.least(1), 8);
        Due.due("worst of 1", x.worst(1), 1);
        Due.due("trial in 1", x.trial(1), 4);
        airs(x, 5, 0, 8);
        x.door(1, true);
        airs(x, 5, 4, 4);
        Due.due("least of 0 again", x.least(0), 5);
    }

    private static void waysOut() {
        PitInspector x = office(1, 6);
        Due.due("no road", x.ways(1), 0);
        x.road(0, 1, 1, true);
        Due.due("one, the door shut", x.ways(1), 1);
        x.road(1, 0, 1, false);
        Due.due("two side by side", x.ways(1), 2);
        x.road(1, 2, 1, false);
        x.road(2, 1, 1, false);
        x.road(1, 2, 1, false);
        Due.due("two of three", x.ways(2), 2);
        x.road(2, 3, 1, false);
        x.road(3, 0, 1, false);
        Due.due("three", x.ways(2), 3);
        Due.due("of 3", x.ways(3), 2);
        Due.due("of 4", x.ways(4), 0);
        x.road(4, 5, 1, false);
        Due.due("no way", x.ways(4), 0);
        Due.due("a bank", x.ways(0), -1);
        Due.due("ways(6)", x.ways(6), -1);
        Due.due("ways(-1)", x.ways(-1), -1);
        // the first way found must be turned back: 5-1-2-0 would bar both others
        x = office(1, 6);
        x.road(5, 1, 1, false);
        x.road(1, 2, 1, false);
        x.road(2, 0, 1, false);
        x.road(5, 3, 1, false);
        x.road(3, 2, 1, false);
        x.road(1, 4, 1, false);
        x.road(4, 0, 1, false);
        Due.due("with one turned back", x.ways(5), 2);
        x = office(1, 3);
        for (int r = 0; r < 75; r++) {
            x.road(0, 1, 1, false);
            x.road(2, 1, 1, false);
        }
        Due.due("seventy-five", x.ways(2), 75);
        Due.due("fewest of so many", x.fewest(0), 75);
    }

    private static void fewestWays() {
        PitInspector x = office(2, 0);
        Due.due("no places", x.fewest(0), -1);
        Due.due("pit 2", x.fewest(2), -2);
        Due.due("pit -1", x.fewest(-1), -2);
        x.place(0);
        Due.due("only a bank", x.fewest(0), -1);
        x.place(1);
        x.place(0);
        Due.due("none", x.fewest(0), 0);
        x.road(0, 2, 1, true);
        Due.due("one", x.fewest(0), 1);
        x.road(0, 2, 1, true);
        Due.due("two", x.fewest(0), 2);
        x.place(0);
        Due.due("none again", x.fewest(0), 0);
        x.road(3, 2, 1, true);
        Due.due("one again", x.fewest(0), 1);
        Due.due("the other pit", x.fewest(1), -1);
        x.place(0);
        x.road(4, 0, 1, false);
        x.road(0, 4, 1, false);
        x.road(4, 2, 1, false);
        Due.due("one of more ways behind", x.fewest(0), 1);
        x.place(1);
        Due.due("the other pit's place", x.fewest(1), 0);
        Due.due("and this one's", x.fewest(0), 1);
    }
}
