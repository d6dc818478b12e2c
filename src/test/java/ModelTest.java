import java.util.Random;

/** Runs of drawn calls, each answered by PitInspector and by the Model; the seeds are fixed. */
final class ModelTest {
    private static final int RUNS = 600;
    private static final int CALLS = 512;

    private final Random random;
    private final PitInspector x = new PitInspector();
    private final Model y = new Model();
    /** A run that is small comes to more of what depends on one pit. */
    private final int pits;
    private int calls = 0;
    private final StringBuilder history = new StringBuilder();

    private ModelTest(int seed) {
        random = new Random(seed);
        pits = 1 + random.nextInt(seed % 3 == 0 ? 12 : 3);
    }

    public static void main(String[] args) {
        for (int seed = 0; seed < RUNS; seed++) {
            new ModelTest(seed).run(seed);
        }
        Due.end("ModelTest");
    }

    private void run(int seed) {
        for (int p = 0; p < pits; p++) {
            int s = n(3);
            int d = n(2001);
            int g = n(101);
            int m = n(300);
            due("pit", x.pit(s, d, g, m), y.pit(s, d, g, m), s, d, g, m);
        }
        int theme = seed % 6;
        if (theme == 1) {
            wholeNet();
        }
        while (calls < CALLS - 10) {
            int kind = random.nextInt(10) < 6 ? theme : random.nextInt(6);
            switch (kind) {
                case 0: texts(); break;
                case 1: net(); break;
                case 2: survey(); break;
                case 3: crew(); break;
                case 4: looks(); break;
                default: office(); break;
            }
        }
    }

    private void due(String call, long got, long want, long... args) {
        calls++;
        StringBuilder text = new StringBuilder(call).append(java.util.Arrays.toString(args));
        history.append(text).append('\n');
        if (got != want && System.getProperty("history") != null) {
            System.out.println(history);
        }
        Due.due(text.toString(), got, want);
    }

    private void due(String call, boolean got, boolean want, long... args) {
        due(call, got ? 1L : 0L, want ? 1L : 0L, args);
    }

    /** 0 to n - 1, rarely one beside them. */
    private int n(int n) {
        if (random.nextInt(60) == 0) {
            return random.nextBoolean() ? -1 : n;
        }
        return n <= 0 ? 0 : random.nextInt(n);
    }

    private int of(int many) {
        return n(Math.max(1, many));
    }

    private int b() {
        return random.nextInt(2);
    }

    private void office() {
        int a = n(20);
        int c = n(y.pits.size());
        switch (random.nextInt(7)) {
            case 0: {
                int step = random.nextInt(20) == 0 ? 1440 : random.nextInt(90);
                int to = y.now + step - (random.nextInt(10) == 0 ? 30 : 0);
                due("now", x.now(to), y.now(to), to);
                break;
            }
            case 1: {
                int v = b() == 0 ? n(101) : n(2001);
                int w = n(2);
                due("told", x.told(c, w, v), y.told(c, w, v), c, w, v);
                break;
            }
            case 2: {
                int d = n(5);
                due("hand", x.hand(c, d), y.hand(c, d), c, d);
                break;
            }
            case 3: {
                int w = n(34);
                due("count", x.count(w), y.count(w), w);
                break;
            }
            case 4: {
                int h = of(y.hands.size());
                int w = n(4);
                due("about", x.about(h, w), y.about(h, w), h, w);
                break;
            }
            case 5: {
                due("fall", x.fall(c), y.fall(c), c);
                break;
            }
            default: {
                due("beyond", x.beyond(a % 5), y.beyond(a % 5), a % 5);
                break;
            }
        }
    }

    private void texts() {
        int p = of(y.pits.size());
        int i = of(y.texts.size());
        switch (random.nextInt(9)) {
            case 0: case 1: text(); break;
            case 2: due("counts", x.counts(i, p), y.counts(i, p), i, p); break;
            case 3: {
                int j = n(i >= 0 && i < y.texts.size() ? 6 : 2);
                due("holds", x.holds(i, j, p), y.holds(i, j, p), i, j, p);
                break;
            }
            case 4: due("broken", x.broken(p), y.broken(p), p); break;
            case 5: {
                int k = n(6);
                int w = n(2);
                due("brokenAt", x.brokenAt(p, k, w), y.brokenAt(p, k, w), p, k, w);
                break;
            }
            case 6: due("fine", x.fine(p), y.fine(p), p); break;
            case 7: due("within", x.within(i), y.within(i), i); break;
            default: due("worth", x.worth(p), y.worth(p), p); break;
        }
    }

    private void text() {
        String text = random.nextInt(40) == 0 ? "" : clauses();
        if (random.nextInt(3) == 0) {
            text = spoil(text);
        }
        if (text.length() > 160) {
            text = text.substring(0, 160);
        }
        history.append("// ").append(text).append('\n');
        for (int from = 0; from < text.length(); from += 20) {
            int[] five = new int[5];
            for (int k = 0; k < 20; k++) {
                five[k / 4] = five[k / 4] << 8 | (from + k < text.length() ? text.charAt(from + k) & 255 : ' ');
            }
            due("feed", x.feed(five[0], five[1], five[2], five[3], five[4]),
                y.feed(five[0], five[1], five[2], five[3], five[4]), five[0], five[1], five[2], five[3], five[4]);
        }
        int p = random.nextBoolean() ? -1 : n(y.pits.size());
        int day = y.now / 1440;
        int from = random.nextInt(10) == 0 ? n(3473) : Math.max(0, day - random.nextInt(2));
        int to = random.nextInt(10) == 0 ? n(3473) : from + random.nextInt(3);
        int n = text.length();
        due("text", x.text(p, from, to, n), y.text(p, from, to, n), p, from, to, n);
    }

    private String clauses() {
        StringBuilder all = new StringBuilder();
        int many = 1 + random.nextInt(random.nextInt(8) == 0 ? 13 : 4);
        for (int k = 0; k < many; k++) {
            all.append(k == 0 ? "" : ";");
            switch (random.nextInt(6)) {
                case 0: all.append('f').append(random.nextInt(99)); break;
                case 1: all.append('x').append(random.nextInt(Math.max(1, y.texts.size() + 1))).append('.')
                    .append(random.nextInt(5)); break;
                case 2: all.append("w(").append(condition(0)).append(')').append(random.nextInt(4)); break;
                case 3: all.append("n(").append(condition(0)).append(')'); break;
                default: all.append("d(").append(condition(0)).append(')'); break;
            }
        }
        return all.toString();
    }

    private String condition(int depth) {
        if (depth == 0 && random.nextInt(3) == 0) {
            return "g<50";
        }
        StringBuilder all = new StringBuilder(piece(depth));
        for (int k = random.nextInt(depth == 0 ? 4 : 3); k > 0; k--) {
            all.append(random.nextBoolean() ? '&' : '|').append(piece(depth));
        }
        return all.toString();
    }

    private String piece(int depth) {
        int kind = random.nextInt(8);
        if (kind == 0 && depth < 6) {
            return "!" + piece(depth + 1);
        }
        if (kind == 1 && depth < 4) {
            return "(" + condition(depth + 1) + ")";
        }
        return sum(depth) + "<>=".charAt(random.nextInt(3)) + sum(depth);
    }

    private String sum(int depth) {
        StringBuilder all = new StringBuilder(factor(depth));
        while (random.nextInt(3) == 0) {
            all.append("+-*/%".charAt(random.nextInt(5))).append(factor(depth));
        }
        return all.toString();
    }

    private String factor(int depth) {
        int kind = random.nextInt(10);
        if (kind == 0 && depth < 6) {
            return "[" + sum(depth + 1) + "]";
        }
        if (kind < 4) {
            return "" + random.nextInt(random.nextInt(6) == 0 ? 99999 : 4);
        }
        return "" + "sdgmbaowlhyq".charAt(random.nextInt(12));
    }

    private String spoil(String text) {
        StringBuilder all = new StringBuilder(text);
        for (int k = 1 + random.nextInt(2); k > 0; k--) {
            int at = random.nextInt(all.length() + 1);
            String signs = "sdgmbaowlhyq0123456789+-*/%<>=&|!()[];.dnwfx \u00ff";
            char sign = signs.charAt(random.nextInt(signs.length()));
            int how = random.nextInt(3);
            if (how == 0) {
                all.insert(at, sign);
            } else if (how == 1 && at < all.length()) {
                all.deleteCharAt(at);
            } else {
                all.setLength(at);
                all.append(sign);
            }
        }
        return all.toString();
    }

    /** A net of some depth in pit 0, asked road by road while doors and fans change. */
    private void wholeNet() {
        int many = 5 + random.nextInt(4);
        for (int k = 0; k < many; k++) {
            due("place", x.place(0), y.place(0), 0);
        }
        int roads = many + random.nextInt(many);
        for (int k = 0; k < roads; k++) {
            int a = random.nextInt(many);
            int c = Math.min(many - 1, Math.max(0, a + random.nextInt(5) - 2));
            int w = 1 + random.nextInt(9);
            boolean d = random.nextInt(4) == 0;
            due("road", x.road(a, c, w, d), y.road(a, c, w, d), a, c, w, d ? 1 : 0);
        }
        for (int turn = 0; turn < 6; turn++) {
            int r = of(y.roads.size());
            boolean d = random.nextBoolean();
            due("door", x.door(r, d), y.door(r, d), r, d ? 1 : 0);
            int a = random.nextInt(many);
            int c = random.nextInt(many);
            int w = random.nextInt(200);
            due("fan", x.fan(0, a, c, w), y.fan(0, a, c, w), 0, a, c, w);
            for (int k = 0; k < y.roads.size(); k++) {
                due("air", x.air(k), y.air(k), k);
                due("trial", x.trial(k), y.trial(k), k);
            }
            due("least", x.least(0), y.least(0), 0);
            due("worst", x.worst(0), y.worst(0), 0);
        }
        for (int k = 0; k < many; k++) {
            due("ways", x.ways(k), y.ways(k), k);
        }
        due("fewest", x.fewest(0), y.fewest(0), 0);
    }

    /** A place, mostly one of the same pit: others are refused as a road's end. */
    private int neighbourOf(int a) {
        int c = of(y.places.size());
        for (int tries = 0; tries < 10 && a >= 0 && a < y.places.size(); tries++) {
            if (c >= 0 && c < y.places.size() && c != a && y.places.get(c).equals(y.places.get(a))) {
                break;
            }
            c = of(y.places.size());
        }
        return c;
    }

    private void net() {
        int p = of(y.pits.size());
        int r = of(y.roads.size());
        int a = of(y.places.size());
        int c = neighbourOf(a);
        switch (random.nextInt(13)) {
            case 0: {
                // cuts are tried one by one, so a pit of the model has few places
                long there = y.places.stream().filter(q -> q == p).count();
                if (there < 8) {
                    due("place", x.place(p), y.place(p), p);
                }
                break;
            }
            case 1: case 2: case 3: {
                int w = 1 + n(100);
                boolean d = random.nextInt(3) == 0;
                due("road", x.road(a, c, w, d), y.road(a, c, w, d), a, c, w, d ? 1 : 0);
                break;
            }
            case 4: {
                boolean d = random.nextBoolean();
                due("door", x.door(r, d), y.door(r, d), r, d ? 1 : 0);
                break;
            }
            case 5: {
                int w = random.nextInt(20) == 0 ? 1000000 : n(500);
                int q = a >= 0 && a < y.places.size() ? y.places.get(a) : p;
                due("fan", x.fan(q, a, c, w), y.fan(q, a, c, w), q, a, c, w);
                break;
            }
            case 6: case 7: due("air", x.air(r), y.air(r), r); break;
            case 8: due("least", x.least(p), y.least(p), p); break;
            case 9: due("trial", x.trial(r), y.trial(r), r); break;
            case 10: due("worst", x.worst(p), y.worst(p), p); break;
            case 11: due("ways", x.ways(a), y.ways(a), a); break;
            default: due("fewest", x.fewest(p), y.fewest(p), p); break;
        }
    }

    private int far() {
        int kind = random.nextInt(12);
        return kind == 0 ? random.nextInt(200004) - 100002 : random.nextInt(200) - 100;
    }

    private void survey() {
        int k = of(y.plans.size());
        int l = of(y.plans.size());
        int a = far();
        int c = far();
        int p = of(y.pits.size());
        int f = of(y.faces.size());
        int v = of(y.waters.size());
        int w = n(2);
        switch (random.nextInt(9)) {
            case 0: {
                int e = random.nextInt(20) == 0 ? n(1001) : n(30);
                int t = n(4);
                due("plan", x.plan(e, t, a, c), y.plan(e, t, a, c), e, t, a, c);
                break;
            }
            case 1: due("shift", x.shift(k, a, c), y.shift(k, a, c), k, a, c); break;
            case 2: due("water", x.water(k, a, c), y.water(k, a, c), k, a, c); break;
            case 3: due("face", x.face(p, k, a, c), y.face(p, k, a, c), p, k, a, c); break;
            case 4: due("yards", x.yards(f, v, w), y.yards(f, v, w), f, v, w); break;
            case 5: {
                boolean whole = random.nextBoolean();
                int which = whole ? p : f;
                due("nearest", x.nearest(which, whole), y.nearest(which, whole), which, whole ? 1 : 0);
                break;
            }
            case 6: {
                int near = random.nextInt(10) == 0 ? n(100001) : 1 + n(120);
                due("moves", x.moves(k, a, c, near), y.moves(k, a, c, near), k, a, c, near);
                break;
            }
            case 7: {
                int d = far();
                int g = far();
                int e = random.nextInt(5) == 0 ? n(1001) : n(100);
                due("join", x.join(k, a, c, l, d, g, e), y.join(k, a, c, l, d, g, e), k, a, c, l, d, g, e);
                break;
            }
            default: due("torn", x.torn(), y.torn()); break;
        }
    }

    private void crew() {
        int h = of(y.hands.size());
        int g = of(y.hands.size());
        int p = of(y.pits.size());
        int w = of(y.warnings.size());
        int half = n(2);
        int minute = random.nextInt(Math.max(1, y.now + 2));
        switch (random.nextInt(14)) {
            case 0: {
                int lot = n(10) % 4;
                due("lamp", x.lamp(lot), y.lamp(lot), lot);
                break;
            }
            case 1: case 2: {
                int lamp = n(y.lamps.size() + 1) - 1;
                due("down", x.down(h, lamp), y.down(h, lamp), h, lamp);
                break;
            }
            case 3: due("up", x.up(h), y.up(h), h); break;
            case 4: due("differs", x.differs(p), y.differs(p), p); break;
            case 5: {
                int many = n(2001);
                due("book", x.book(p, many), y.book(p, many), p, many);
                break;
            }
            case 6: {
                int lot = n(10) % 4;
                due("had", x.had(lot, minute, half), y.had(lot, minute, half), lot, minute, half);
                break;
            }
            case 7: due("shot", x.shot(h), y.shot(h), h); break;
            case 8: {
                int from = n(25);
                int to = n(25);
                due("shots", x.shots(p, from, to), y.shots(p, from, to), p, from, to);
                break;
            }
            case 9: due("warn", x.warn(h), y.warn(h), h); break;
            case 10: due("tell", x.tell(w, h, g), y.tell(w, h, g), w, h, g); break;
            case 11: due("act", x.act(w, h), y.act(w, h), w, h); break;
            case 12: due("knew", x.knew(w, minute, half), y.knew(w, minute, half), w, minute, half); break;
            default: due("late", x.late(w, half), y.late(w, half), w, half); break;
        }
    }

    private void looks() {
        switch (random.nextInt(8)) {
            case 0: {
                int many = random.nextInt(19);
                due("inspectors", x.inspectors(many), y.inspectors(many), many);
                break;
            }
            case 1: {
                int many = 1 + n(y.pits.size());
                int share = n(101);
                int seed = n(134456);
                due("send", x.send(many, share, seed), y.send(many, share, seed), many, share, seed);
                break;
            }
            case 2: case 3: {
                int k = n(Math.max(1, y.looks.size()));
                int w = n(2);
                due("look", x.look(k, w), y.look(k, w), k, w);
                break;
            }
            case 4: {
                int h = random.nextInt(3);
                int place = of(y.places.size());
                int minute = Math.max(0, y.now - random.nextInt(30) + 1);
                due("seen", x.seen(h, place, minute), y.seen(h, place, minute), h, place, minute);
                break;
            }
            case 5: {
                int many = n(12);
                due("pace", x.pace(many), y.pace(many), many);
                break;
            }
            case 6: {
                int set = random.nextInt(1 << y.seen.size()) & random.nextInt(1 << 17);
                set = random.nextInt(20) == 0 ? n(1 << 17) : set;
                due("judge", x.judge(set), y.judge(set), set);
                break;
            }
            default: due("most", x.most(), y.most()); break;
        }
    }
}
