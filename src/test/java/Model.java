import java.util.ArrayList;
import java.util.List;

/**
 * The document once more, in its slowest and plainest form and by other means than PitInspector:
 * faults by a machine of states, conditions by splitting texts, ways out by cuts, sets by trying all.
 */
final class Model {
    private record Pit(int seam, int depth, int[] gas, int[] men, int[] book) { }
    private record Hand(int pit, int duty) { }
    private record Road(int a, int b, int width, boolean hasDoor) { }
    private record Text(int pit, int from, int to, List<String> clauses) { }
    private record Point(int plan, int x, int y) { }
    private record Join(Point a, Point b, int error) { }
    private record Shot(int pit, int minute) { }
    private record Seen(int hand, int place, int minute) { }
    private record Known(int warning, int hand, int minute) { }

    private static final class Outing {
        int hand;
        int lamp;
        int up = -1;
    }

    private static final class Refused extends RuntimeException {
        private static final long serialVersionUID = 1L;
    }

    int now = 0;
    final List<Pit> pits = new ArrayList<>();
    final List<Hand> hands = new ArrayList<>();
    StringBuilder tape = new StringBuilder();
    final List<Text> texts = new ArrayList<>();
    final List<Integer> places = new ArrayList<>();
    final List<Road> roads = new ArrayList<>();
    final List<Boolean> open = new ArrayList<>();
    final int[][] fans = new int[12][];
    final List<int[]> plans = new ArrayList<>();
    final List<Point> waters = new ArrayList<>();
    final List<Point> faces = new ArrayList<>();
    final List<Integer> facePits = new ArrayList<>();
    final List<Join> joins = new ArrayList<>();
    final List<Integer> lamps = new ArrayList<>();
    final List<Outing> outings = new ArrayList<>();
    final List<Shot> shots = new ArrayList<>();
    final List<Integer> warnings = new ArrayList<>();
    final List<Known> known = new ArrayList<>();
    final List<Integer> acted = new ArrayList<>();
    final List<Integer> falls = new ArrayList<>();
    int inspectors = 1;
    final int[] lastLook = {-1, -1, -1, -1, -1, -1, -1, -1, -1, -1, -1, -1};
    List<int[]> looks = new ArrayList<>();
    final List<Seen> seen = new ArrayList<>();
    int pace = 5;

    private static boolean in(int n, int low, int high) {
        return low <= n && n <= high;
    }

    private boolean isPit(int p) {
        return in(p, 0, pits.size() - 1);
    }

    private boolean isHand(int h) {
        return in(h, 0, hands.size() - 1);
    }

    boolean now(int minute) {
        if (minute < now || minute > 5000000) {
            return false;
        }
        now = minute;
        return true;
    }

    int pit(int seam, int depth, int gas, int men) {
        if (pits.size() == 12 || !in(seam, 0, 7) || !in(depth, 0, 2000) || !in(gas, 0, 100) || !in(men, 0, 2000)) {
            return -1;
        }
        pits.add(new Pit(seam, depth, new int[] {gas}, new int[] {men}, new int[] {0}));
        return pits.size() - 1;
    }

    boolean told(int p, int what, int n) {
        if (!isPit(p) || !in(what, 0, 1) || !in(n, 0, what == 0 ? 100 : 2000)) {
            return false;
        }
        (what == 0 ? pits.get(p).gas() : pits.get(p).men())[0] = n;
        return true;
    }

    int hand(int p, int duty) {
        if (!isPit(p) || !in(duty, 0, 4) || hands.size() == 40) {
            return -1;
        }
        hands.add(new Hand(p, duty));
        return hands.size() - 1;
    }

    int feed(int a, int b, int c, int d, int e) {
        if (tape.length() + 20 > 160) {
            return -1;
        }
        for (int four : new int[] {a, b, c, d, e}) {
            tape.append((char) (four >>> 24)).append((char) (four >>> 16 & 255));
            tape.append((char) (four >>> 8 & 255)).append((char) (four & 255));
        }
        return tape.length();
    }

    int text(int p, int from, int to, int n) {
        if (p != -1 && !isPit(p) || !in(from, 0, 3472) || !in(to, from, 3472) || !in(n, 1, 160)) {
            return -1;
        }
        if (n > tape.length() || texts.size() == 30) {
            return -1;
        }
        String text = tape.substring(0, n);
        tape = new StringBuilder();
        int fault = new States(text).firstFault();
        if (fault != 0) {
            return fault;
        }
        texts.add(new Text(p, from, to, List.of(text.split(";"))));
        return texts.size() - 1;
    }

    /** One step a sign; what is open stands on a stack of signs. */
    private static final class States {
        private final String text;
        private final StringBuilder stack = new StringBuilder();
        private String state = "clause";
        private int clauses = 0;
        private int side = 0;
        private int digits = 0;
        private int firstDigit = 0;
        private char letter;

        States(String text) {
            this.text = text;
        }

        int firstFault() {
            for (int at = 0; at <= text.length(); at++) {
                char sign = at < text.length() ? text.charAt(at) : (char) 1000;
                int fault = step(sign, at);
                if (fault != 0) {
                    return fault;
                }
            }
            return 0;
        }

        private int step(char sign, int at) {
            boolean digit = sign >= '0' && sign <= '9';
            if (state.startsWith("digits")) {
                if (digit) {
                    digits++;
                    return digits == 6 ? -2000 - at : 0;
                }
                if (state.equals("digitsI") || state.equals("digitsJ")) {
                    int limit = state.equals("digitsI") ? 29 : 11;
                    if (Integer.parseInt(text.substring(firstDigit, at)) > limit) {
                        return -3000 - firstDigit;
                    }
                }
                state = switch (state) {
                    case "digitsI" -> "dot";
                    case "digitsE" -> "factorEnd";
                    default -> "clauseEnd";
                };
            }
            if (state.equals("pieceEnd") || state.equals("factorEnd")) {
                return afterFactorOrPiece(sign, at);
            }
            if (state.startsWith("first")) {
                if (!digit) {
                    return -1000 - at;
                }
                state = "digits" + state.substring(5);
                digits = 1;
                firstDigit = at;
                return 0;
            }
            switch (state) {
                case "clause": return clause(sign, at);
                case "paren": return sign == '(' ? push('(', at, "piece") : -1000 - at;
                case "dot": return become(sign == '.', "firstJ", at);
                case "clauseEnd": return sign == 1000 ? 0 : become(sign == ';', "clause", at);
                case "piece": return piece(sign, at);
                case "factor": return factor(sign, at);
                default: throw new IllegalStateException(state);
            }
        }

        private int become(boolean can, String next, int at) {
            if (!can) {
                return -1000 - at;
            }
            state = next;
            return 0;
        }

        private int push(char sign, int at, String next) {
            if (stack.length() == 6) {
                return -5000 - at;
            }
            stack.append(sign);
            state = next;
            return 0;
        }

        private char top() {
            return stack.charAt(stack.length() - 1);
        }

        private int clause(char sign, int at) {
            if ("dnwfx".indexOf(sign) < 0) {
                return -1000 - at;
            }
            clauses++;
            if (clauses == 13) {
                return -4000 - at;
            }
            letter = sign;
            side = 0;
            state = sign == 'f' ? "firstN" : sign == 'x' ? "firstI" : "paren";
            return 0;
        }

        private int piece(char sign, int at) {
            if (sign == '!' || sign == '(') {
                return push(sign, at, "piece");
            }
            side = 0;
            return factor(sign, at);
        }

        private int factor(char sign, int at) {
            if (sign == '[') {
                return push(sign, at, "factor");
            }
            if (sign >= '0' && sign <= '9') {
                state = "digitsE";
                digits = 1;
                return 0;
            }
            return become("sdgmbaowlhyq".indexOf(sign) >= 0, "factorEnd", at);
        }

        private int afterFactorOrPiece(char sign, int at) {
            if (state.equals("factorEnd")) {
                if ("+-*/%".indexOf(sign) >= 0) {
                    state = "factor";
                    return 0;
                }
                if (top() == '[') {
                    if (sign == ']') {
                        stack.setLength(stack.length() - 1);
                        return 0;
                    }
                    return -1000 - at;
                }
                if (side == 0) {
                    side = 1;
                    return become("<>=".indexOf(sign) >= 0, "factor", at);
                }
            }
            if ("&|)".indexOf(sign) < 0) {
                return -1000 - at;
            }
            while (top() == '!') {
                stack.setLength(stack.length() - 1);
            }
            if (sign != ')') {
                state = "piece";
                return 0;
            }
            stack.setLength(stack.length() - 1);
            state = stack.length() > 0 ? "pieceEnd" : letter == 'w' ? "firstN" : "clauseEnd";
            return 0;
        }
    }

    private String conditionOf(String clause) {
        return clause.substring(2, clause.lastIndexOf(')'));
    }

    private int numberBehind(String clause) {
        int at = clause.startsWith("f") ? 1 : clause.lastIndexOf(')') + 1;
        return Integer.parseInt(clause.substring(at));
    }

    /** Where, outside of brackets, one of some signs stands last or first; -1 if nowhere. */
    private static int split(String text, String signs, boolean last) {
        int depth = 0;
        int found = -1;
        for (int at = 0; at < text.length(); at++) {
            char sign = text.charAt(at);
            depth += sign == '(' || sign == '[' ? 1 : sign == ')' || sign == ']' ? -1 : 0;
            if (depth == 0 && signs.indexOf(sign) >= 0 && (last || found < 0)) {
                found = at;
            }
        }
        return found;
    }

    private boolean isSo(String text, int p) {
        int or = split(text, "|", true);
        if (or >= 0) {
            return isSo(text.substring(0, or), p) || isSo(text.substring(or + 1), p);
        }
        int and = split(text, "&", true);
        if (and >= 0) {
            return isSo(text.substring(0, and), p) && isSo(text.substring(and + 1), p);
        }
        if (text.startsWith("!")) {
            return !isSo(text.substring(1), p);
        }
        if (text.startsWith("(")) {
            return isSo(text.substring(1, text.length() - 1), p);
        }
        int at = split(text, "<>=", false);
        long a = worthOf(text.substring(0, at), p);
        long b = worthOf(text.substring(at + 1), p);
        char sign = text.charAt(at);
        return sign == '<' ? a < b : sign == '>' ? a > b : a == b;
    }

    private long worthOf(String text, int p) {
        int at = split(text, "+-", true);
        if (at < 0) {
            at = split(text, "*/%", true);
        }
        if (at >= 0) {
            long a = worthOf(text.substring(0, at), p);
            long b = worthOf(text.substring(at + 1), p);
            char sign = text.charAt(at);
            if ((sign == '/' || sign == '%') && b == 0) {
                throw new Refused();
            }
            return sign == '+' ? a + b : sign == '-' ? a - b : sign == '*' ? a * b : sign == '/' ? a / b : a % b;
        }
        if (text.startsWith("[")) {
            return worthOf(text.substring(1, text.length() - 1), p);
        }
        char sign = text.charAt(0);
        return sign <= '9' ? Long.parseLong(text) : letter(sign, p);
    }

    private long letter(char sign, int p) {
        switch (sign) {
            case 's': return pits.get(p).seam();
            case 'd': return pits.get(p).depth();
            case 'g': return pits.get(p).gas()[0];
            case 'm': return pits.get(p).men()[0];
            case 'b': return below(p);
            case 'a': return least(p);
            case 'o': return fewest(p);
            case 'w': return nearest(p, true);
            case 'l': return outings.stream()
                .filter(o -> o.up < 0 && o.lamp >= 0 && hands.get(o.hand).pit() == p).count();
            case 'h': return now / 60 % 24;
            case 'y': return now / 1440;
            default: return shots.stream().filter(s -> s.pit() == p && s.minute() > now - 1440).count();
        }
    }

    private int answer(String clause, int p) {
        if (clause.startsWith("f") || clause.startsWith("x")) {
            return 1;
        }
        try {
            return isSo(conditionOf(clause), p) ? 1 : 0;
        } catch (Refused r) {
            return 2;
        }
    }

    private boolean isFor(Text t, int p) {
        int day = now / 1440;
        return (t.pit() == -1 || t.pit() == p) && t.from() <= day && day <= t.to();
    }

    /** The clauses that count for a pit, each as text and clause, by texts from the lowest on. */
    private List<int[]> counting(int p) {
        List<String> struck = new ArrayList<>();
        List<int[]> all = new ArrayList<>();
        for (int i = texts.size() - 1; i >= 0; i--) {
            Text t = texts.get(i);
            if (!isFor(t, p)) {
                continue;
            }
            for (int j = t.clauses().size() - 1; j >= 0; j--) {
                if (struck.contains(i + "." + j)) {
                    continue;
                }
                all.add(0, new int[] {i, j});
                String clause = t.clauses().get(j);
                if (clause.startsWith("x")) {
                    String[] two = clause.substring(1).split("\\.");
                    int lower = Integer.parseInt(two[0]);
                    boolean can = lower < i && (t.pit() == -1 || texts.get(lower).pit() == t.pit());
                    if (can) {
                        struck.add(lower + "." + Integer.parseInt(two[1]));
                    }
                }
            }
        }
        return all;
    }

    int counts(int i, int p) {
        if (!in(i, 0, texts.size() - 1) || !isPit(p)) {
            return -1;
        }
        return (int) counting(p).stream().filter(c -> c[0] == i).count();
    }

    int holds(int i, int j, int p) {
        if (!in(i, 0, texts.size() - 1) || !in(j, 0, texts.get(i).clauses().size() - 1) || !isPit(p)) {
            return -1;
        }
        return answer(texts.get(i).clauses().get(j), p);
    }

    private List<int[]> brokenOnes(int p) {
        List<int[]> all = new ArrayList<>();
        for (int[] c : counting(p)) {
            String clause = texts.get(c[0]).clauses().get(c[1]);
            int a = answer(clause, p);
            if (clause.startsWith("d") && a != 1 || clause.startsWith("n") && a != 0) {
                all.add(c);
            }
        }
        return all;
    }

    int broken(int p) {
        return isPit(p) ? brokenOnes(p).size() : -1;
    }

    int brokenAt(int p, int k, int what) {
        if (!isPit(p) || !in(what, 0, 1)) {
            return -1;
        }
        List<int[]> all = brokenOnes(p);
        return in(k, 0, all.size() - 1) ? all.get(k)[what] : -1;
    }

    long fine(int p) {
        if (!isPit(p)) {
            return -1;
        }
        long sum = 0;
        for (int[] b : brokenOnes(p)) {
            long last = 0;
            for (int[] c : counting(p)) {
                String clause = texts.get(c[0]).clauses().get(c[1]);
                if (c[0] == b[0] && clause.startsWith("f")) {
                    last = numberBehind(clause);
                }
            }
            sum += last;
        }
        return sum;
    }

    int within(int i) {
        if (!in(i, 0, texts.size() - 1) || texts.get(i).pit() == -1) {
            return -1;
        }
        int day = now / 1440;
        for (String own : texts.get(i).clauses()) {
            for (Text act : texts) {
                if (act.pit() != -1 || day < act.from() || day > act.to()) {
                    continue;
                }
                String against = own.startsWith("d") ? "n" : own.startsWith("n") ? "d" : "none";
                if (act.clauses().contains(against + own.substring(1))) {
                    return 0;
                }
            }
        }
        return 1;
    }

    int place(int p) {
        if (!isPit(p) || places.size() == 80) {
            return -1;
        }
        places.add(p);
        return places.size() - 1;
    }

    private boolean isPlace(int k) {
        return in(k, 0, places.size() - 1);
    }

    int road(int a, int b, int width, boolean door) {
        if (!isPlace(a) || !isPlace(b) || a == b || !places.get(a).equals(places.get(b)) || !in(width, 1, 100)
            || roads.size() == 150) {
            return -1;
        }
        roads.add(new Road(a, b, width, door));
        open.add(!door);
        return roads.size() - 1;
    }

    private boolean isDoor(int r) {
        return in(r, 0, roads.size() - 1) && roads.get(r).hasDoor();
    }

    boolean door(int r, boolean isOpen) {
        if (!isDoor(r)) {
            return false;
        }
        open.set(r, isOpen);
        return true;
    }

    boolean fan(int p, int down, int up, int air) {
        if (!isPit(p) || !isPlace(down) || !isPlace(up) || down == up || places.get(down) != p || places.get(up) != p
            || !in(air, 0, 1000000)) {
            return false;
        }
        fans[p] = new int[] {down, up, air};
        return true;
    }

    /** Roads between two places, by going on from all that is reached; 1000 if there is no way. */
    private int[] distances(int from, boolean any) {
        int[] far = new int[places.size()];
        java.util.Arrays.fill(far, 1000);
        far[from] = 0;
        for (int turn = 0; turn < places.size(); turn++) {
            for (int r = 0; r < roads.size(); r++) {
                if (any || open.get(r)) {
                    int a = roads.get(r).a();
                    int b = roads.get(r).b();
                    far[a] = Math.min(far[a], far[b] + 1);
                    far[b] = Math.min(far[b], far[a] + 1);
                }
            }
        }
        return far;
    }

    private long[] airs(int p) {
        long[] air = new long[roads.size()];
        if (fans[p] == null) {
            return air;
        }
        int[] far = distances(fans[p][1], false);
        long[] came = new long[places.size()];
        if (far[fans[p][0]] < 1000) {
            came[fans[p][0]] = fans[p][2];
        }
        for (int step = 999; step > 0; step--) {
            for (int k = 0; k < places.size(); k++) {
                if (far[k] == step && came[k] > 0) {
                    spread(k, far, came, air);
                }
            }
        }
        return air;
    }

    private void spread(int k, int[] far, long[] came, long[] air) {
        List<Integer> on = new ArrayList<>();
        long wide = 0;
        for (int r = 0; r < roads.size(); r++) {
            if (open.get(r) && (roads.get(r).a() == k || roads.get(r).b() == k) && far[other(r, k)] == far[k] - 1) {
                on.add(r);
                wide += roads.get(r).width();
            }
        }
        long left = came[k];
        for (int r : on) {
            air[r] = came[k] * roads.get(r).width() / wide;
            left -= air[r];
        }
        for (int r : on) {
            if (left > 0) {
                air[r]++;
                left--;
            }
            came[other(r, k)] += air[r];
        }
    }

    private int other(int r, int k) {
        return roads.get(r).a() == k ? roads.get(r).b() : roads.get(r).a();
    }

    private int pitOf(int r) {
        return places.get(roads.get(r).a());
    }

    int air(int r) {
        return in(r, 0, roads.size() - 1) ? (int) airs(pitOf(r))[r] : -1;
    }

    int least(int p) {
        if (!isPit(p)) {
            return -2;
        }
        if (fans[p] == null) {
            return -1;
        }
        long[] air = airs(p);
        long least = Long.MAX_VALUE;
        for (int r = 0; r < roads.size(); r++) {
            if (pitOf(r) == p && open.get(r)) {
                least = Math.min(least, air[r]);
            }
        }
        return least == Long.MAX_VALUE ? -1 : (int) least;
    }

    int trial(int r) {
        if (!isDoor(r)) {
            return -2;
        }
        open.set(r, !open.get(r));
        int answer = least(pitOf(r));
        open.set(r, !open.get(r));
        return answer;
    }

    int worst(int p) {
        int worst = -1;
        for (int r = 0; r < roads.size(); r++) {
            if (isDoor(r) && pitOf(r) == p && (worst < 0 || trial(r) < trial(worst))) {
                worst = r;
            }
        }
        return worst;
    }

    /** By the theorem of Menger: the fewest roads that part a place from its bank. */
    int ways(int place) {
        if (!isPlace(place) || places.indexOf(places.get(place)) == place) {
            return -1;
        }
        int p = places.get(place);
        int bank = places.indexOf(p);
        List<Integer> others = new ArrayList<>();
        for (int k = 0; k < places.size(); k++) {
            if (places.get(k) == p && k != place && k != bank) {
                others.add(k);
            }
        }
        int fewest = Integer.MAX_VALUE;
        for (int set = 0; set < 1 << others.size(); set++) {
            boolean[] with = new boolean[places.size()];
            with[place] = true;
            for (int k = 0; k < others.size(); k++) {
                with[others.get(k)] = (set >> k & 1) == 1;
            }
            int cut = 0;
            for (Road r : roads) {
                cut += with[r.a()] != with[r.b()] ? 1 : 0;
            }
            fewest = Math.min(fewest, cut);
        }
        return fewest;
    }

    int fewest(int p) {
        if (!isPit(p)) {
            return -2;
        }
        int fewest = -1;
        for (int k = 0; k < places.size(); k++) {
            if (places.get(k) == p && places.indexOf(p) != k) {
                fewest = fewest < 0 ? ways(k) : Math.min(fewest, ways(k));
            }
        }
        return fewest;
    }

    private static boolean areIn(int x, int y) {
        return in(x, -100000, 100000) && in(y, -100000, 100000);
    }

    private boolean isPlan(int k) {
        return in(k, 0, plans.size() - 1);
    }

    int plan(int error, int turn, int x, int y) {
        if (!in(error, 0, 1000) || !in(turn, 0, 3) || !areIn(x, y) || plans.size() == 15) {
            return -1;
        }
        plans.add(new int[] {error, turn, x, y});
        return plans.size() - 1;
    }

    boolean shift(int k, int x, int y) {
        if (!isPlan(k) || !areIn(x, y)) {
            return false;
        }
        plans.get(k)[2] = x;
        plans.get(k)[3] = y;
        return true;
    }

    int water(int k, int x, int y) {
        if (!isPlan(k) || !areIn(x, y) || waters.size() == 30) {
            return -1;
        }
        waters.add(new Point(k, x, y));
        return waters.size() - 1;
    }

    int face(int p, int k, int x, int y) {
        if (!isPit(p) || !isPlan(k) || !areIn(x, y) || faces.size() == 30) {
            return -1;
        }
        faces.add(new Point(k, x, y));
        facePits.add(p);
        return faces.size() - 1;
    }

    private int[] truth(Point a) {
        int x = a.x();
        int y = a.y();
        for (int turn = 0; turn < plans.get(a.plan())[1]; turn++) {
            int was = x;
            x = -y;
            y = was;
        }
        return new int[] {x + plans.get(a.plan())[2], y + plans.get(a.plan())[3]};
    }

    private int far(Point a, Point b) {
        return Math.max(Math.abs(truth(a)[0] - truth(b)[0]), Math.abs(truth(a)[1] - truth(b)[1]));
    }

    private int doubt(Point a, Point b) {
        return plans.get(a.plan())[0] + (a.plan() == b.plan() ? 0 : plans.get(b.plan())[0]);
    }

    int yards(int f, int v, int what) {
        if (!in(f, 0, faces.size() - 1) || !in(v, 0, waters.size() - 1) || !in(what, 0, 1)) {
            return -1;
        }
        int far = far(faces.get(f), waters.get(v));
        int doubt = doubt(faces.get(f), waters.get(v));
        return what == 1 ? far + doubt : far < doubt ? 0 : far - doubt;
    }

    int nearest(int f, boolean whole) {
        List<Integer> all = new ArrayList<>();
        if (whole ? !isPit(f) : !in(f, 0, faces.size() - 1)) {
            return -1;
        }
        for (int k = 0; k < faces.size(); k++) {
            for (int v = 0; v < waters.size(); v++) {
                if (whole ? facePits.get(k) == f : k == f) {
                    all.add(yards(k, v, 0));
                }
            }
        }
        return all.stream().mapToInt(n -> n).min().orElse(99999);
    }

    int moves(int k, int x, int y, int yards) {
        if (!isPlan(k) || !areIn(x, y) || !in(yards, 1, 99999)) {
            return -1;
        }
        int bits = 0;
        int[] was = plans.get(k).clone();
        for (int f = 0; f < faces.size(); f++) {
            boolean near = nearest(f, false) < yards;
            shift(k, x, y);
            boolean then = nearest(f, false) < yards;
            shift(k, was[2], was[3]);
            bits += then && !near ? 1 << f : 0;
        }
        return bits;
    }

    int join(int a, int ax, int ay, int b, int bx, int by, int error) {
        if (!isPlan(a) || !isPlan(b) || a == b || !areIn(ax, ay) || !areIn(bx, by) || !in(error, 0, 1000)
            || joins.size() == 30) {
            return -1;
        }
        joins.add(new Join(new Point(a, ax, ay), new Point(b, bx, by), error));
        return joins.size() - 1;
    }

    int torn() {
        for (Join j : joins) {
            if (far(j.a(), j.b()) > doubt(j.a(), j.b()) + j.error()) {
                return joins.indexOf(j);
            }
        }
        return -1;
    }

    int lamp(int lot) {
        if (!in(lot, 0, 9) || lamps.size() == 60) {
            return -1;
        }
        lamps.add(lot);
        return lamps.size() - 1;
    }

    private Outing outingOf(int h) {
        return outings.stream().filter(o -> o.hand == h && o.up < 0).findFirst().orElse(null);
    }

    private int below(int p) {
        return (int) outings.stream().filter(o -> o.up < 0 && hands.get(o.hand).pit() == p).count();
    }

    boolean down(int h, int lamp) {
        if (!isHand(h) || outingOf(h) != null || !in(lamp, -1, lamps.size() - 1) || outings.size() == 300) {
            return false;
        }
        if (lamp >= 0 && outings.stream().anyMatch(o -> o.lamp == lamp && o.up < 0)) {
            return false;
        }
        Outing o = new Outing();
        o.hand = h;
        o.lamp = lamp;
        outings.add(o);
        return true;
    }

    boolean up(int h) {
        if (!isHand(h) || outingOf(h) == null) {
            return false;
        }
        outingOf(h).up = now;
        return true;
    }

    int differs(int p) {
        return isPit(p) ? below(p) - pits.get(p).book()[0] : -100000;
    }

    boolean book(int p, int n) {
        if (!isPit(p) || !in(n, 0, 2000)) {
            return false;
        }
        pits.get(p).book()[0] = n;
        return true;
    }

    private static int half(List<Integer> some, int half) {
        int bits = 0;
        for (int h : some) {
            bits |= h / 20 == half ? 1 << h % 20 : 0;
        }
        return bits;
    }

    int had(int lot, int minute, int half) {
        if (!in(lot, 0, 9) || !in(minute, 0, now) || !in(half, 0, 1)) {
            return -1;
        }
        List<Integer> some = new ArrayList<>();
        for (Outing o : outings) {
            if (o.lamp >= 0 && lamps.get(o.lamp) == lot && (o.up < 0 || o.up >= minute)) {
                some.add(o.hand);
            }
        }
        return half(some, half);
    }

    boolean shot(int h) {
        if (!isHand(h) || hands.get(h).duty() != 3 || outingOf(h) == null || shots.size() == 300) {
            return false;
        }
        shots.add(new Shot(hands.get(h).pit(), now));
        return true;
    }

    int shots(int p, int from, int to) {
        if (!isPit(p) || !in(from, 0, 24) || !in(to, 0, 24) || to < from) {
            return -1;
        }
        int many = 0;
        for (int hour = from; hour < to; hour++) {
            for (Shot s : shots) {
                many += s.pit() == p && s.minute() % 1440 / 60 == hour ? 1 : 0;
            }
        }
        return many;
    }

    int warn(int h) {
        if (!isHand(h) || warnings.size() == 60) {
            return -1;
        }
        warnings.add(hands.get(h).pit());
        known.add(new Known(warnings.size() - 1, h, now));
        return warnings.size() - 1;
    }

    private boolean isWarning(int w) {
        return in(w, 0, warnings.size() - 1);
    }

    private boolean knows(int w, int h) {
        return known.stream().anyMatch(k -> k.warning() == w && k.hand() == h);
    }

    boolean tell(int w, int a, int b) {
        if (!isWarning(w) || !isHand(a) || !isHand(b) || !knows(w, a) || knows(w, b)
            || hands.get(b).pit() != warnings.get(w)) {
            return false;
        }
        known.add(new Known(w, b, now));
        return true;
    }

    boolean act(int w, int h) {
        if (!isWarning(w) || !isHand(h) || !knows(w, h) || acted.contains(w * 100 + h)) {
            return false;
        }
        acted.add(w * 100 + h);
        return true;
    }

    int knew(int w, int minute, int half) {
        if (!isWarning(w) || !in(minute, 0, 5000000) || !in(half, 0, 1)) {
            return -1;
        }
        List<Integer> some = new ArrayList<>();
        for (Known k : known) {
            if (k.warning() == w && k.minute() <= minute) {
                some.add(k.hand());
            }
        }
        return half(some, half);
    }

    int late(int w, int half) {
        if (!isWarning(w) || !in(half, 0, 1)) {
            return -1;
        }
        int p = warnings.get(w);
        int hours = -1;
        for (int[] c : counting(p)) {
            String clause = texts.get(c[0]).clauses().get(c[1]);
            if (clause.startsWith("w") && answer(clause, p) == 1) {
                hours = numberBehind(clause);
            }
        }
        List<Integer> some = new ArrayList<>();
        for (Known k : known) {
            if (hours >= 0 && k.warning() == w && hands.get(k.hand()).duty() <= 2 && now - k.minute() > 60 * hours
                && !acted.contains(w * 100 + k.hand())) {
                some.add(k.hand());
            }
        }
        return half(some, half);
    }

    boolean fall(int p) {
        if (!isPit(p) || falls.size() == 200) {
            return false;
        }
        falls.add(p);
        return true;
    }

    int beyond(int seam) {
        if (!in(seam, 0, 7)) {
            return -1;
        }
        long all = falls.size();
        long own = falls.stream().filter(p -> pits.get(p).seam() == seam).count();
        long allMen = pits.stream().mapToLong(p -> p.men()[0]).sum();
        long ownMen = pits.stream().filter(p -> p.seam() == seam).mapToLong(p -> p.men()[0]).sum();
        long more = own * allMen - all * ownMen;
        return more > 0 && more * more > 4 * all * ownMen * allMen ? 1 : 0;
    }

    boolean inspectors(int n) {
        if (!in(n, 1, 16)) {
            return false;
        }
        inspectors = n;
        return true;
    }

    int worth(int p) {
        return isPit(p) ? pits.get(p).gas()[0] + pits.get(p).depth() / 10 + 20 * broken(p) : -1;
    }

    int send(int n, int share, int seed) {
        if (!in(n, 1, pits.size()) || !in(share, 0, 100) || !in(seed, 0, 134455)) {
            return -1;
        }
        List<Integer> order = new ArrayList<>();
        long x = seed;
        for (int times = 0; times < 60 && order.size() < n * share / 100; times++) {
            x = (8121 * x + 28411) % 134456;
            int p = (int) (x % pits.size());
            if (!order.contains(p)) {
                order.add(p);
            }
        }
        int drawn = order.size();
        while (order.size() < n) {
            int best = -1;
            for (int p = 0; p < pits.size(); p++) {
                if (!order.contains(p) && (best < 0 || worth(p) > worth(best))) {
                    best = p;
                }
            }
            order.add(best);
        }
        looks = new ArrayList<>();
        for (int k = 0; k < n; k++) {
            int by = k % inspectors;
            if (by == lastLook[order.get(k)]) {
                by = by + 1 == inspectors ? 0 : by + 1;
            }
            lastLook[order.get(k)] = by;
            looks.add(new int[] {order.get(k), by});
        }
        return drawn;
    }

    int look(int k, int what) {
        return in(k, 0, looks.size() - 1) && in(what, 0, 1) ? looks.get(k)[what] : -1;
    }

    int seen(int h, int place, int minute) {
        if (!isHand(h) || !isPlace(place) || places.get(place) != hands.get(h).pit() || !in(minute, 0, now)
            || seen.size() == 16) {
            return -1;
        }
        seen.add(new Seen(h, place, minute));
        return seen.size() - 1;
    }

    boolean pace(int n) {
        if (!in(n, 1, 60)) {
            return false;
        }
        pace = n;
        return true;
    }

    private boolean[][] bad() {
        boolean[][] bad = new boolean[16][16];
        for (int i = 0; i < seen.size(); i++) {
            int[] far = distances(seen.get(i).place(), true);
            for (int j = 0; j < seen.size(); j++) {
                int minutes = Math.abs(seen.get(i).minute() - seen.get(j).minute());
                int roadsBetween = far[seen.get(j).place()];
                bad[i][j] = seen.get(i).hand() == seen.get(j).hand()
                    && (roadsBetween >= 1000 || roadsBetween * pace > minutes);
            }
        }
        return bad;
    }

    private boolean can(int set, boolean[][] bad) {
        for (int i = 0; i < seen.size(); i++) {
            for (int j = 0; j < i; j++) {
                if ((set >> i & 1) == 1 && (set >> j & 1) == 1 && bad[i][j]) {
                    return false;
                }
            }
        }
        return true;
    }

    int judge(int set) {
        return in(set, 0, (1 << seen.size()) - 1) ? can(set, bad()) ? 1 : 0 : -1;
    }

    int most() {
        boolean[][] bad = bad();
        int best = 0;
        for (int set = 0; set < 1 << seen.size(); set++) {
            if (Integer.bitCount(set) > Integer.bitCount(best) && can(set, bad)) {
                best = set;
            }
        }
        return best;
    }

    int about(int h, int what) {
        if (!isHand(h) || !in(what, 0, 3)) {
            return -1;
        }
        Outing o = outingOf(h);
        int[] all = {hands.get(h).pit(), hands.get(h).duty(), o == null ? 0 : 1, o == null ? -1 : o.lamp};
        return all[what];
    }

    int count(int what) {
        int[] all = {now, pits.size(), hands.size(), texts.size(), places.size(), roads.size(), plans.size(),
            waters.size(), faces.size(), joins.size(), lamps.size(), outings.size(), shots.size(), warnings.size(),
            falls.size(), looks.size(), seen.size(), tape.length()};
        if (in(what, 0, 17)) {
            return all[what];
        }
        return isPit(what - 20) ? below(what - 20) : -1;
    }
}
