/**
 * What wraps around: 64 bits as the machine reckons, the hour and the day, bytes above 127, quarters of a turn, X of the
 * draw, inspectors round about, and hands from 20 and from 32 on, which stand in other bits.
 */
final class WrapTest {
    private static final int NONE = -1;
    /** The least number of 64 bits. */
    private static final String LEAST = "[0-32768]*32768*32768*32768*8";

    public static void main(String[] args) {
        sums();
        products();
        quotients();
        comparisons();
        letters();
        hours();
        days();
        shotsOfADay();
        bytes();
        quarters();
        draws();
        inspectors();
        highHands();
        highFaces();
        fines();
        Due.end("WrapTest");
    }

    private static void holds(String condition, int want) {
        PitInspector x = new PitInspector();
        x.pit(7, 2000, 100, 2000);
        Due.due("7 no fault in " + condition, Due.act(x, "d(" + condition + ")"), 0);
        Due.due("9 " + condition, x.holds(0, 0, 0), want);
    }

    private static void sums() {
        holds(LEAST + "-1>0", 1);
        holds(LEAST + "-1-1>0", 1);
        holds(LEAST + "-1+1<0", 1);
        holds(LEAST + "-1+1=" + LEAST, 1);
        holds(LEAST + "+" + LEAST + "=0", 1);
        holds("0-[" + LEAST + "]=" + LEAST, 1);
        holds("[" + LEAST + "-1]+[" + LEAST + "-1]=0-2", 1);
    }

    private static void products() {
        holds(LEAST + "*2=0", 1);
        holds(LEAST + "*3=" + LEAST, 1);
        holds(LEAST + "*[0-1]=" + LEAST, 1);
        holds("65536*65536*65536*65536=0", 1);
        holds("65536*65536*65536*32768<0", 1);
        holds("65536*65536*65536*32768=" + LEAST, 1);
        holds("65536*65536*65536*16384>0", 1);
        holds("65536*65536=0", 0);
        holds("65536*32768<0", 0);
        holds("99999*99999*99999*99999<0", 99999L * 99999L * 99999L * 99999L < 0 ? 1 : 0);
        long product = 99999L * 99999L * 99999L * 99999L;
        long rest = product % 99998L;
        holds("99999*99999*99999*99999%99998=" + (rest < 0 ? "0-" : "") + Math.abs(rest), 1);
    }

    private static void quotients() {
        holds(LEAST + "/[0-1]=" + LEAST, 1);
        holds(LEAST + "%[0-1]=0", 1);
        holds(LEAST + "/1=" + LEAST, 1);
        holds("7/1=7", 1);
        holds("7%1=0", 1);
        holds("7/[0-1]=0-7", 1);
        holds("7%[0-1]=0", 1);
        holds("[0-7]/2=0-3", 1);
        holds("[0-7]%2=0-1", 1);
        holds("7/[0-2]=0-3", 1);
        holds("7%[0-2]=1", 1);
        holds("[0-7]/[0-2]=3", 1);
        holds("0/1=0", 1);
        holds("0%1=0", 1);
        holds("1/0=0", 2);
        holds("1%0=0", 2);
        holds("0/0=0", 2);
        holds("0%0=0", 2);
        holds(LEAST + "/0=0", 2);
        holds("1/[" + LEAST + "*2]=0", 2);
        holds("1%[65536*65536*65536*65536]=0", 2);
        holds("1/[5-5]=0", 2);
        holds("5/[1/2]=0", 2);
    }

    private static void comparisons() {
        holds(LEAST + "<1", 1);
        holds(LEAST + ">1", 0);
        holds("1>" + LEAST, 1);
        holds("1<" + LEAST, 0);
        holds(LEAST + "<" + LEAST + "-1", 1);
        holds(LEAST + "-1>" + LEAST, 1);
        holds("1>2", 0);
        holds("2>1", 1);
        holds("1>1", 0);
        holds("1<2", 1);
        holds("2<1", 0);
        holds("1<1", 0);
        holds("1=1", 1);
        holds("1=2", 0);
        holds("2=1", 0);
        holds("65536*65536=65536*65536*65536*65536+65536*65536", 1);
    }

    private static void letters() {
        holds("d*d*d*d*d*m=0-[0-2000*2000*2000*2000*2000*2000]", 1);
        long six = 2000L * 2000L * 2000L * 2000L * 2000L * 2000L;
        holds("d*d*d*d*d*m<0", six < 0 ? 1 : 0);
        holds("g-s*g+s=0-593", 1);
        holds("s/b=1", 2);
        holds("s%l=1", 2);
        holds("s/[a+1]=1", 2);
        holds("s/[o+1]=1", 2);
        holds("s/[w-99999]=1", 2);
        holds("s%q=1", 2);
        holds("s/h=1", 2);
        holds("s%y=1", 2);
    }

    private static void hours() {
        int[][] want = {{0, 0}, {59, 0}, {60, 1}, {119, 1}, {1379, 22}, {1380, 23}, {1439, 23}, {1440, 0}, {1499, 0},
            {1500, 1}, {2879, 23}, {2880, 0}, {4999979, 4}, {4999980, 5}, {5000000, 5}};
        PitInspector x = new PitInspector();
        x.pit(0, 0, 0, 0);
        for (int hour = 0; hour < 24; hour++) {
            Due.act(x, "d(h=" + hour + ")");
        }
        for (int[] w : want) {
            Due.due("2 now " + w[0], x.now(w[0]), true);
            for (int hour = 0; hour < 24; hour++) {
                Due.due("9 hour " + hour + " at " + w[0], x.holds(hour, 0, 0), hour == w[1] ? 1 : 0);
            }
        }
    }

    private static void days() {
        int[][] want = {{0, 0}, {1439, 0}, {1440, 1}, {2879, 1}, {2880, 2}, {4999679, 3471}, {4999680, 3472}, {5000000, 3472}};
        PitInspector x = new PitInspector();
        x.pit(0, 0, 0, 0);
        int[] asked = {0, 1, 2, 3471, 3472, 3473};
        for (int day : asked) {
            Due.act(x, "d(y=" + day + ")");
        }
        for (int[] w : want) {
            Due.due("2 now " + w[0], x.now(w[0]), true);
            for (int i = 0; i < asked.length; i++) {
                Due.due("9 day " + asked[i] + " at " + w[0], x.holds(i, 0, 0), asked[i] == w[1] ? 1 : 0);
            }
        }
    }

    private static void shotsOfADay() {
        PitInspector x = new PitInspector();
        x.pit(0, 0, 0, 0);
        x.hand(0, 3);
        x.down(0, NONE);
        Due.act(x, "d(q=0);d(q=1);d(q=2)");
        x.shot(0);
        int[][] want = {{0, 1}, {1439, 1}, {1440, 0}, {5000, 0}};
        for (int[] w : want) {
            x.now(w[0]);
            for (int many = 0; many < 3; many++) {
                Due.due("9 " + many + " shots at " + w[0], x.holds(0, many, 0), many == w[1] ? 1 : 0);
            }
        }
        x.shot(0);
        Due.due("9 an old one and a new one", x.holds(0, 1, 0), 1);
        x.now(6439);
        Due.due("9 its last minute", x.holds(0, 1, 0), 1);
        x.shot(0);
        Due.due("9 two", x.holds(0, 2, 0), 1);
        x.now(6440);
        Due.due("9 the first is a day old", x.holds(0, 1, 0), 1);
    }

    /** Bytes are 0 to 255: those above 127 are no other letters, and neither is what an int's sign makes of them. */
    private static void bytes() {
        for (int high : new int[] {'d', 'n', 'w', 'f', 'x'}) {
            PitInspector x = new PitInspector();
            x.feed((high + 128) << 24, 0, 0, 0, 0);
            Due.due("7 a letter and 128", x.text(-1, 0, 0, 1), -1000);
        }
        for (int sign : new int[] {0, 9, 10, 32, 127, 128, 176, 185, 231, 255}) {
            PitInspector x = new PitInspector();
            x.feed('f' << 24 | '1' << 16 | sign << 8, 0, 0, 0, 0);
            Due.due("7 byte " + sign + " in a number", x.text(-1, 0, 0, 3), -1002);
            x.feed('d' << 24 | '(' << 16 | sign << 8, 0, 0, 0, 0);
            Due.due("7 byte " + sign + " as a letter", x.text(-1, 0, 0, 3), -1002);
        }
        PitInspector x = new PitInspector();
        x.feed(0x66313266, 0x33343566, 0x36373866, 0x39303166, 0x32333466);
        Due.due("6 the highest of each int first", x.text(-1, 0, 0, 3), 0);
        x.feed(0x00000066, 0x31000000, 0, 0, 0);
        Due.due("6 the first three are not yet the letter", x.text(-1, 0, 0, 5), -1000);
        x.feed(Integer.MIN_VALUE, Integer.MAX_VALUE, -1, 0, 1);
        Due.due("6 all ints are taken", x.count(17), 20);
    }

    private static void quarters() {
        int[][] trueOf = {{9, 4}, {-4, 9}, {-9, -4}, {4, -9}};
        for (int turn = 0; turn < 4; turn++) {
            PitInspector x = new PitInspector();
            x.pit(0, 0, 0, 0);
            x.plan(0, turn, 0, 0);
            x.plan(0, 0, 0, 0);
            x.face(0, 0, 9, 4);
            x.water(1, trueOf[turn][0], trueOf[turn][1]);
            Due.due("24 turn " + turn, x.yards(0, 0, 1), 0);
            x.water(0, trueOf[(4 - turn) % 4][0], trueOf[(4 - turn) % 4][1]);
            x.face(0, 1, 9, 4);
            Due.due("24 turned back by " + turn, x.yards(1, 1, 1), 0);
            x.shift(0, 100000, -100000);
            Due.due("25 shifted behind the turn " + turn, x.yards(0, 0, 1), 100000);
        }
        PitInspector x = new PitInspector();
        x.pit(0, 0, 0, 0);
        x.plan(1000, 2, 100000, 100000);
        x.plan(1000, 0, -100000, -100000);
        x.face(0, 0, -100000, -100000);
        x.water(1, -100000, 0);
        Due.due("28 as far as can be, most", x.yards(0, 0, 1), 402000);
        Due.due("28 as far as can be, least", x.yards(0, 0, 0), 398000);
        Due.due("29 nearest is so far too", x.nearest(0, true), 398000);
    }

    /** Of 12 pits the last one is drawn at the 60th time by seed 254, and would be at the 61st by seed 751. */
    private static void draws() {
        int[][] want = {{12, 132, 12}, {12, 254, 12}, {12, 751, 11}, {11, 350, 11}, {11, 93, 10}, {10, 1451, 10}, {10, 69, 9}};
        for (int[] w : want) {
            PitInspector x = new PitInspector();
            for (int p = 0; p < w[0]; p++) {
                x.pit(0, 0, 0, 0);
            }
            Due.due("50 drawn of " + w[0] + " by seed " + w[1], x.send(w[0], 100, w[1]), w[2]);
            Due.due("57 all the same sent", x.count(15), w[0]);
        }
        PitInspector x = new PitInspector();
        for (int p = 0; p < 11; p++) {
            x.pit(0, 0, 0, 0);
        }
        int[] firsts = {0, 1, 12, 13, 134454, 134455};
        for (int seed : firsts) {
            long first = (8121L * seed + 28411L) % 134456L;
            x.send(1, 100, seed);
            Due.due("50 the first by seed " + seed, x.look(0, 0), first % 11);
        }
    }

    private static void inspectors() {
        PitInspector x = new PitInspector();
        for (int p = 0; p < 5; p++) {
            x.pit(0, 0, 50 - p, 0);
        }
        x.inspectors(3);
        int[][] want = {{0, 1, 2, 0, 1}, {1, 2, 0, 1, 2}, {0, 1, 2, 0, 1}};
        for (int[] by : want) {
            x.send(5, 0, 0);
            for (int k = 0; k < 5; k++) {
                Due.due("51 look " + k, x.look(k, 1), by[k]);
            }
        }
        x.inspectors(1);
        x.send(5, 0, 0);
        Due.due("51 one alone", x.look(4, 1), 0);
        x.send(5, 0, 0);
        Due.due("51 one alone, round about", x.look(4, 1), 0);
        x.inspectors(16);
        x.send(5, 0, 0);
        Due.due("51 who looked last stays", x.look(0, 1), 1);
        Due.due("51 the fifth", x.look(4, 1), 4);
    }

    private static void highHands() {
        PitInspector x = new PitInspector();
        x.pit(0, 0, 0, 0);
        for (int h = 0; h < 40; h++) {
            x.hand(0, h % 3);
            x.lamp(h / 4);
        }
        x.warn(39);
        for (int h = 0; h < 39; h++) {
            x.tell(0, 39, h);
        }
        Due.due("44 all, half 0", x.knew(0, 0, 0), (1 << 20) - 1);
        Due.due("44 all, half 1", x.knew(0, 0, 1), (1 << 20) - 1);
        Due.act(x, "w(1=1)0");
        x.now(1);
        int[] acting = {19, 20, 31, 32, 39, 0};
        int low = (1 << 20) - 1;
        int high = low;
        for (int h : acting) {
            Due.due("43 act by " + h, x.act(0, h), true);
            low &= h < 20 ? ~(1 << h) : -1;
            high &= h < 20 ? -1 : ~(1 << h - 20);
            Due.due("45 late, half 0, without " + h, x.late(0, 0), low);
            Due.due("45 late, half 1, without " + h, x.late(0, 1), high);
        }
        for (int h : acting) {
            x.down(h, h);
        }
        Due.due("38 lot 4, half 0", x.had(4, 1, 0), 1 << 19);
        Due.due("38 lot 5, half 1", x.had(5, 1, 1), 1);
        Due.due("38 lot 9, half 1", x.had(9, 1, 1), 1 << 19);
        Due.due("38 lot 7, half 1", x.had(7, 1, 1), 1 << 11);
        Due.due("38 lot 8, half 1", x.had(8, 1, 1), 1 << 12);
        Due.due("38 lot 0, half 0", x.had(0, 1, 0), 1);
    }

    private static void highFaces() {
        PitInspector x = new PitInspector();
        x.pit(0, 0, 0, 0);
        x.plan(0, 0, 0, 0);
        x.plan(0, 0, 0, 5000);
        x.water(1, 0, 0);
        for (int f = 0; f < 30; f++) {
            x.face(0, 0, 0, 0);
        }
        Due.due("30 thirty faces", x.moves(1, 0, 0, 1), (1 << 30) - 1);
        Due.due("30 all stays", x.nearest(29, false), 5000);
    }

    private static void fines() {
        PitInspector x = new PitInspector();
        x.pit(0, 0, 0, 0);
        String eleven = "n(1=1);n(1=1);n(1=1);n(1=1);n(1=1);n(1=1);n(1=1);n(1=1);n(1=1);n(1=1);n(1=1);f99999";
        for (int i = 0; i < 30; i++) {
            Due.due("7 text " + i, Due.act(x, eleven), i);
        }
        Due.due("12 the greatest fine", x.fine(0), 330L * 99999L);
        Due.due("49 the greatest worth", x.worth(0), 20 * 330);
        Due.due("10 broken", x.broken(0), 330);
    }
}
