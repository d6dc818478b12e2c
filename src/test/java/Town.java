import java.util.ArrayList;
import java.util.List;
import java.util.function.Supplier;

/** An office with some of everything, all that can be asked of one, and calls that have to change nothing. */
final class Town {
    interface Call {
        long on(PitInspector x);
    }

    interface CallOf {
        long on(PitInspector x, int n);
    }

    private Town() {
    }

    static long bit(boolean answer) {
        return answer ? 1 : 0;
    }

    /** Three pits, and of all else so much that the lowest and the highest number can be used in each call. */
    static PitInspector office() {
        PitInspector x = new PitInspector();
        x.pit(3, 400, 20, 100);
        x.pit(4, 100, 5, 50);
        x.pit(3, 0, 0, 10);
        crew(x);
        net(x);
        Due.text(x, -1, 0, 3472, "d(g<10);n(m=100);w(g>1)1;f7;x0.0");
        Due.text(x, 0, 1, 5, "d(l=0);x1.0;f3");
        Due.text(x, 1, 0, 2, "n(h=2);w(1/0=1)2");
        Due.text(x, 0, 0, 3472, "x1.0;n(q=5)");
        survey(x);
        x.warn(0);
        x.warn(2);
        x.warn(0);
        x.tell(1, 2, 1);
        x.act(1, 1);
        x.book(0, 5);
        x.book(1, 2);
        x.fall(0);
        x.fall(0);
        x.fall(1);
        x.inspectors(3);
        x.send(3, 50, 9);
        x.seen(0, 0, 10);
        x.seen(0, 2, 17);
        x.seen(4, 4, 50);
        x.seen(0, 9, 2900);
        x.pace(7);
        Due.feed(x, "f1;d(g=1);n(s=3)                       !");
        return x;
    }

    private static void crew(PitInspector x) {
        int[][] pitAndDuty = {{0, 3}, {0, 0}, {0, 1}, {0, 2}, {1, 3}, {1, 0}, {0, 3}};
        for (int[] of : pitAndDuty) {
            x.hand(of[0], of[1]);
        }
        for (int lot : new int[] {0, 9, 0, 9}) {
            x.lamp(lot);
        }
        x.now(100);
        x.down(3, 1);
        x.down(4, -1);
        x.down(2, 2);
        x.shot(4);
        x.now(2000);
        x.up(2);
        x.now(3000);
    }

    private static void net(PitInspector x) {
        for (int p : new int[] {0, 0, 0, 0, 1, 1, 1, 2, 2, 0}) {
            x.place(p);
        }
        int[][] roads = {{0, 1, 2, 1}, {1, 2, 3, 0}, {0, 2, 1, 0}, {4, 5, 4, 0}, {5, 6, 2, 1}, {2, 9, 5, 0}, {7, 8, 1, 1}};
        for (int[] r : roads) {
            x.road(r[0], r[1], r[2], r[3] == 1);
        }
        x.door(4, true);
        x.fan(0, 0, 1, 100);
        x.fan(1, 4, 6, 30);
    }

    private static void survey(PitInspector x) {
        x.plan(10, 0, 5, 5);
        x.plan(20, 1, 0, 0);
        x.plan(0, 3, -7, 2);
        x.water(0, 10, 10);
        x.water(2, 40, -5);
        x.face(0, 1, 30, 60);
        x.face(1, 0, 90, 5);
        x.join(0, 0, 0, 1, 5, -5, 3);
        x.join(1, 0, 0, 2, 0, 500, 0);
    }

    /** What the calls that only ask answer, in one row. */
    static List<Long> ask(PitInspector x) {
        List<Long> all = new ArrayList<>();
        for (int what = 0; what < 23; what++) {
            all.add((long) x.count(what));
        }
        for (int p = 0; p < 3; p++) {
            for (long a : new long[] {x.least(p), x.worst(p), x.fewest(p), x.broken(p), x.fine(p), x.worth(p), x.differs(p),
                x.nearest(p, true), x.nearest(p, false), x.shots(p, 0, 24), x.shots(p, 1, 2), x.beyond(p + 2)}) {
                all.add(a);
            }
        }
        for (int i = 0; i < 5; i++) {
            for (long a : new long[] {x.counts(i, 0), x.counts(i, 1), x.holds(i, 0, 0), x.holds(i, 1, 1), x.within(i)}) {
                all.add(a);
            }
        }
        for (int r = 0; r < 7; r++) {
            all.add((long) x.air(r));
            all.add((long) x.trial(r));
            all.add((long) x.ways(r + 3));
            all.add((long) x.about(r, r % 2));
            all.add((long) x.about(r, 2));
            all.add((long) x.about(r, 3));
        }
        for (int k = 0; k < 4; k++) {
            for (long a : new long[] {x.yards(k / 2, k % 2, 0), x.yards(k / 2, k % 2, 1), x.moves(k, 7, -9, 60),
                x.had(k % 2 * 9, 50 * k, k / 2), x.knew(k, 5000000, 0), x.knew(k, 5000000, 1), x.late(k, 0),
                x.look(k, 0), x.look(k, 1), x.judge(3 << k), x.brokenAt(0, k, 0), x.brokenAt(0, k, 1)}) {
                all.add(a);
            }
        }
        all.add((long) x.torn());
        all.add((long) x.most());
        return all;
    }

    /** Calls that change something: their answers show what no call tells of itself. */
    static List<Long> stir(PitInspector x) {
        List<Long> all = new ArrayList<>();
        for (long a : new long[] {bit(x.down(1, 0)), bit(x.down(5, 3)), bit(x.down(0, 2)), bit(x.up(3)), bit(x.shot(0)),
            bit(x.shot(6)), bit(x.door(0, true)), x.air(0), x.air(1), bit(x.door(6, true)), x.least(2),
            x.text(0, 0, 9, 9), x.count(3), x.count(17), x.send(3, 34, 77), x.look(0, 1), x.look(1, 1), x.look(2, 1),
            x.send(2, 0, 0), x.look(0, 1), x.look(1, 1), bit(x.tell(0, 0, 1)), bit(x.tell(1, 1, 3)), bit(x.act(0, 1)),
            bit(x.act(1, 1)), bit(x.act(1, 2)), x.seen(4, 5, 51), x.judge(20), x.most(), bit(x.fall(2)), x.beyond(3),
            x.pit(7, 1, 1, 1), x.hand(0, 0), x.lamp(1), x.place(1), x.road(4, 6, 1, false), x.air(3), x.plan(1, 1, 1, 1),
            x.water(1, 8, 8), x.face(1, 2, 9, 9), x.join(0, 1, 1, 1, 1, 1, 1), x.warn(6), x.feed(1, 2, 3, 4, 5)}) {
            all.add(a);
        }
        return all;
    }

    /** The call answers so, and an office of which it was asked is like one of which it was not. */
    static void refused(String name, Supplier<PitInspector> made, Call call, long answer) {
        PitInspector x = made.get();
        PitInspector y = made.get();
        Due.due(name, call.on(x), answer);
        alike(name + " changes nothing", ask(x), ask(y));
        alike(name + " changes nothing that shows later", stir(x), stir(y));
        alike(name + " changes nothing at all", ask(x), ask(y));
    }

    /** The same of an office that took so many calls that fewer may follow. */
    static void refusedWhenFull(String name, Supplier<PitInspector> made, Call call, long answer) {
        PitInspector x = made.get();
        PitInspector y = made.get();
        Due.due(name, call.on(x), answer);
        alike(name + " changes nothing", ask(x), ask(y));
        alike(name + " changes nothing that shows later", stir(x), stir(y));
    }

    /** The same of an office that took some 300 calls. */
    static void refusedAtLast(String name, Supplier<PitInspector> made, Call call, long answer) {
        PitInspector x = made.get();
        Due.due(name, call.on(x), answer);
        alike(name + " changes nothing", ask(x), ask(made.get()));
    }

    static void refused(String name, Call call, long answer) {
        refused(name, Town::office, call, answer);
    }

    private static void alike(String name, List<Long> got, List<Long> want) {
        Due.due(name + ", same length", got.size(), want.size());
        for (int k = 0; k < want.size(); k++) {
            if (!got.get(k).equals(want.get(k))) {
                Due.due(name + ", answer " + k, got.get(k), want.get(k));
            }
        }
    }

    /** The lowest and the highest number are taken; the next ones beyond, and the farthest, are refused. */
    static void range(String name, Supplier<PitInspector> made, CallOf call, int low, int high, long none) {
        for (int n : new int[] {low, high}) {
            long got = call.on(made.get(), n);
            Due.due(name + ": " + n + " is taken (" + got + ")", got != none, true);
        }
        for (int n : new int[] {low - 1, high + 1, Integer.MIN_VALUE, Integer.MAX_VALUE}) {
            refused(name + ": " + n, made, x -> call.on(x, n), none);
        }
    }

    static void range(String name, CallOf call, int low, int high, long none) {
        range(name, Town::office, call, low, high, none);
    }
}
