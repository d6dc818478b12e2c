import java.util.Arrays;

/** The office of the inspectors of mines; DOC.md tells what each call promises. */
public final class PitInspector {
    public static final int NONE = -1;

    private static final int NO_SUCH_PIT = -2;
    private static final int NO_DIFFERENCE = -100000;
    private static final int LAST_MINUTE = 5000000;
    private static final int LAST_DAY = 3472;
    private static final int MINUTES_OF_DAY = 1440;
    private static final int MOST_PITS = 12;
    private static final int MOST_HANDS = 40;
    private static final int HALF_OF_HANDS = 20;
    private static final int MOST_TEXTS = 30;
    private static final int MOST_CLAUSES = 12;
    private static final int MOST_BYTES = 160;
    private static final int FED_BYTES = 20;
    private static final int REFUSED = 2;

    private int minute;
    private final byte[] tape = new byte[MOST_BYTES];
    private int tapeLength;
    private final Pits pits = new Pits();
    private final Laws laws = new Laws();
    private final Net net = new Net();
    private final Air airs = new Air();
    private final Survey survey = new Survey();
    private final Crew crew = new Crew();
    private final Warnings warnings = new Warnings();
    private final Looks looks = new Looks();
    private final Inquest inquest = new Inquest();

    public PitInspector() {
    }

    public boolean now(int minute) {
        if (!inside(minute, this.minute, LAST_MINUTE)) {
            return false;
        }
        this.minute = minute;
        return true;
    }

    public int pit(int seam, int depth, int gas, int men) {
        return pits.sink(seam, depth, gas, men);
    }

    public boolean told(int p, int what, int n) {
        return pits.change(p, what, n);
    }

    public int hand(int p, int duty) {
        return pits.exists(p) ? crew.hire(p, duty) : NONE;
    }

    public int feed(int a, int b, int c, int d, int e) {
        if (tapeLength + FED_BYTES > MOST_BYTES) {
            return NONE;
        }
        feedFour(a);
        feedFour(b);
        feedFour(c);
        feedFour(d);
        feedFour(e);
        return tapeLength;
    }

    public int text(int p, int from, int to, int n) {
        if (p != NONE && !pits.exists(p)) {
            return NONE;
        }
        if (!inside(from, 0, LAST_DAY) || !inside(to, from, LAST_DAY)) {
            return NONE;
        }
        if (!inside(n, 1, tapeLength) || laws.areFull()) {
            return NONE;
        }
        tapeLength = 0;
        return laws.enact(tape, n, p, from, to);
    }

    public int counts(int i, int p) {
        if (!laws.exists(i) || !pits.exists(p)) {
            return NONE;
        }
        return laws.countingClauses(i, p, day());
    }

    public int holds(int i, int j, int p) {
        if (!laws.hasClause(i, j) || !pits.exists(p)) {
            return NONE;
        }
        learn(p);
        return laws.clauseHolds(i, j);
    }

    public int broken(int p) {
        return pits.exists(p) ? brokenBy(p) : NONE;
    }

    public int brokenAt(int p, int k, int what) {
        if (!pits.exists(p) || !inside(what, 0, 1)) {
            return NONE;
        }
        if (!inside(k, 0, brokenBy(p) - 1)) {
            return NONE;
        }
        return what == 0 ? laws.brokenText(k) : laws.brokenClause(k);
    }

    public long fine(int p) {
        if (!pits.exists(p)) {
            return NONE;
        }
        brokenBy(p);
        return laws.fineOfBroken();
    }

    public int within(int i) {
        if (!laws.areRules(i)) {
            return NONE;
        }
        return laws.isWithinActs(i, day()) ? 1 : 0;
    }

    public int place(int p) {
        return pits.exists(p) ? net.addPlace(p) : NONE;
    }

    public int road(int a, int b, int width, boolean door) {
        int r = net.addRoad(a, b, width, door);
        if (r != NONE) {
            airs.forget(net.pitOfRoad(r));
        }
        return r;
    }

    public boolean door(int r, boolean open) {
        if (!net.hasDoor(r)) {
            return false;
        }
        net.setDoor(r, open);
        airs.forget(net.pitOfRoad(r));
        return true;
    }

    public boolean fan(int p, int down, int up, int air) {
        if (!pits.exists(p) || !net.isOfPit(down, p) || !net.isOfPit(up, p)) {
            return false;
        }
        return airs.setFan(p, down, up, air);
    }

    public int air(int r) {
        return net.hasRoad(r) ? airs.ofRoad(net, r) : NONE;
    }

    public int least(int p) {
        return pits.exists(p) ? airs.leastOf(net, p) : NO_SUCH_PIT;
    }

    public int trial(int r) {
        return net.hasDoor(r) ? airs.tryDoor(net, r) : NO_SUCH_PIT;
    }

    public int worst(int p) {
        return pits.exists(p) ? airs.worstDoor(net, p) : NONE;
    }

    public int ways(int place) {
        if (!net.hasPlace(place) || net.isBank(place)) {
            return NONE;
        }
        return net.waysOut(place, Net.MOST_ROADS);
    }

    public int fewest(int p) {
        return pits.exists(p) ? net.fewestWays(p) : NO_SUCH_PIT;
    }

    public int plan(int error, int turn, int x, int y) {
        return survey.addPlan(error, turn, x, y);
    }

    public boolean shift(int k, int x, int y) {
        return survey.setShift(k, x, y);
    }

    public int water(int k, int x, int y) {
        return survey.addWater(k, x, y);
    }

    public int face(int p, int k, int x, int y) {
        return pits.exists(p) ? survey.addFace(p, k, x, y) : NONE;
    }

    public int yards(int f, int v, int what) {
        if (!survey.hasFace(f) || !survey.hasWater(v) || !inside(what, 0, 1)) {
            return NONE;
        }
        return what == 0 ? survey.leastYards(f, v) : survey.mostYards(f, v);
    }

    public int nearest(int f, boolean whole) {
        if (whole) {
            return pits.exists(f) ? survey.nearestOfPit(f) : NONE;
        }
        return survey.hasFace(f) ? survey.nearestOfFace(f) : NONE;
    }

    public int moves(int k, int x, int y, int yards) {
        return survey.facesMovedNear(k, x, y, yards);
    }

    public int join(int a, int ax, int ay, int b, int bx, int by, int error) {
        if (a == b || !survey.isPoint(a, ax, ay) || !survey.isPoint(b, bx, by)) {
            return NONE;
        }
        int j = survey.nextJoin(error);
        if (j != NONE) {
            survey.setJoin(j, 0, a, ax, ay);
            survey.setJoin(j, 1, b, bx, by);
        }
        return j;
    }

    public int torn() {
        return survey.firstTorn();
    }

    public int lamp(int lot) {
        return crew.addLamp(lot);
    }

    public boolean down(int h, int lamp) {
        return crew.goDown(h, lamp);
    }

    public boolean up(int h) {
        return crew.goUp(h, minute);
    }

    public int differs(int p) {
        return pits.exists(p) ? crew.below[p] - pits.book[p] : NO_DIFFERENCE;
    }

    public boolean book(int p, int n) {
        return pits.setBook(p, n);
    }

    public int had(int lot, int minute, int half) {
        if (!inside(minute, 0, this.minute) || !inside(half, 0, 1)) {
            return NONE;
        }
        return crew.hadLot(lot, minute, half);
    }

    public boolean shot(int h) {
        return crew.fire(h, minute);
    }

    public int shots(int p, int from, int to) {
        if (!pits.exists(p) || !inside(from, 0, 24) || !inside(to, from, 24)) {
            return NONE;
        }
        return crew.shotsBetween(p, from, to);
    }

    public int warn(int h) {
        return crew.exists(h) ? warnings.raise(h, crew.pit[h], minute) : NONE;
    }

    public boolean tell(int w, int a, int b) {
        if (!warnings.exists(w) || !crew.exists(a) || !crew.exists(b)) {
            return false;
        }
        if (crew.pit[b] != warnings.pit[w]) {
            return false;
        }
        return warnings.pass(w, a, b, minute);
    }

    public boolean act(int w, int h) {
        if (!warnings.exists(w) || !crew.exists(h)) {
            return false;
        }
        return warnings.heed(w, h);
    }

    public int knew(int w, int minute, int half) {
        if (!warnings.exists(w) || !inside(half, 0, 1) || !inside(minute, 0, LAST_MINUTE)) {
            return NONE;
        }
        return warnings.knownTo(w, minute, half);
    }

    public int late(int w, int half) {
        if (!warnings.exists(w) || !inside(half, 0, 1)) {
            return NONE;
        }
        int p = warnings.pit[w];
        learn(p);
        int hours = laws.hoursToAct(p, day());
        return hours == NONE ? 0 : warnings.idleSince(w, minute - 60 * hours, half, crew);
    }

    public boolean fall(int p) {
        return pits.addFall(p);
    }

    public int beyond(int seam) {
        if (!inside(seam, 0, 7)) {
            return NONE;
        }
        return pits.isBeyondChance(seam) ? 1 : 0;
    }

    public boolean inspectors(int n) {
        return looks.setInspectors(n);
    }

    public int worth(int p) {
        return pits.exists(p) ? worthOf(p) : NONE;
    }

    public int send(int n, int share, int seed) {
        if (!inside(n, 1, pits.count) || !inside(share, 0, 100) || !inside(seed, 0, Looks.MODULUS - 1)) {
            return NONE;
        }
        for (int p = 0; p < pits.count; p++) {
            looks.worths[p] = worthOf(p);
        }
        return looks.give(n, n * share / 100, seed, pits.count);
    }

    public int look(int k, int what) {
        return looks.tellOf(k, what);
    }

    public int seen(int h, int place, int minute) {
        if (!crew.exists(h) || !net.isOfPit(place, crew.pit[h]) || !inside(minute, 0, this.minute)) {
            return NONE;
        }
        return inquest.add(h, place, minute);
    }

    public boolean pace(int n) {
        return inquest.setPace(n);
    }

    public int judge(int set) {
        if (!inquest.isSet(set)) {
            return NONE;
        }
        inquest.findClashes(net);
        return inquest.canAllBe(set) ? 1 : 0;
    }

    public int most() {
        inquest.findClashes(net);
        return inquest.greatestSet();
    }

    public int about(int h, int what) {
        if (!crew.exists(h)) {
            return NONE;
        }
        switch (what) {
            case 0: return crew.pit[h];
            case 1: return crew.duty[h];
            case 2: return crew.isBelow(h) ? 1 : 0;
            case 3: return crew.lampOf(h);
            default: return NONE;
        }
    }

    public int count(int what) {
        switch (what) {
            case 0: return minute;
            case 1: return pits.count;
            case 2: return crew.count;
            case 3: return laws.count;
            case 4: return net.placeCount;
            case 5: return net.roadCount;
            case 6: return survey.planCount;
            case 7: return survey.waterCount;
            case 8: return survey.faceCount;
            case 9: return survey.joinCount;
            case 10: return crew.lampCount;
            case 11: return crew.outingCount;
            case 12: return crew.shotCount;
            case 13: return warnings.count;
            case 14: return pits.fallCount;
            case 15: return looks.count;
            case 16: return inquest.count;
            case 17: return tapeLength;
            default: return inside(what, 20, 19 + pits.count) ? crew.below[what - 20] : NONE;
        }
    }

    private static boolean inside(int n, int low, int high) {
        return n >= low && n <= high;
    }

    private int day() {
        return minute / MINUTES_OF_DAY;
    }

    private void feedFour(int four) {
        for (int bits = 24; bits >= 0 && tapeLength < tape.length; bits -= 8) {
            tape[tapeLength] = (byte) (four >> bits);
            tapeLength++;
        }
    }

    /** What the letters of the texts mean for a pit now; the dear ones only if a text asks them. */
    private void learn(int p) {
        long[] facts = laws.facts;
        facts[Laws.SEAM] = pits.seam[p];
        facts[Laws.DEPTH] = pits.depth[p];
        facts[Laws.GAS] = pits.gas[p];
        facts[Laws.MEN] = pits.men[p];
        facts[Laws.BELOW] = crew.below[p];
        facts[Laws.LAMPS_OUT] = crew.lampsOut[p];
        facts[Laws.HOUR] = minute / 60 % 24;
        facts[Laws.DAY] = day();
        if (laws.ask(Laws.LEAST_AIR)) {
            facts[Laws.LEAST_AIR] = airs.leastOf(net, p);
        }
        if (laws.ask(Laws.FEWEST_WAYS)) {
            facts[Laws.FEWEST_WAYS] = net.fewestWays(p);
        }
        if (laws.ask(Laws.NEAREST)) {
            facts[Laws.NEAREST] = survey.nearestOfPit(p);
        }
        if (laws.ask(Laws.SHOTS)) {
            facts[Laws.SHOTS] = crew.shotsAfter(p, minute - MINUTES_OF_DAY);
        }
    }

    private int brokenBy(int p) {
        learn(p);
        return laws.findBroken(p, day());
    }

    private int worthOf(int p) {
        learn(p);
        return pits.gas[p] + pits.depth[p] / 10 + 20 * laws.findBroken(p, day());
    }

    /** The pits, what their books tell, and their falls. */
    private static final class Pits {
        static final int MOST_FALLS = 200;

        final int[] seam = new int[MOST_PITS];
        final int[] depth = new int[MOST_PITS];
        final int[] gas = new int[MOST_PITS];
        final int[] men = new int[MOST_PITS];
        final int[] book = new int[MOST_PITS];
        final int[] falls = new int[MOST_PITS];
        int count;
        int fallCount;

        boolean exists(int p) {
            return p >= 0 && p < count;
        }

        int sink(int seam, int depth, int gas, int men) {
            if (count >= MOST_PITS || !inside(seam, 0, 7) || !inside(depth, 0, 2000)) {
                return NONE;
            }
            if (!inside(gas, 0, 100) || !inside(men, 0, 2000)) {
                return NONE;
            }
            this.seam[count] = seam;
            this.depth[count] = depth;
            this.gas[count] = gas;
            this.men[count] = men;
            count++;
            return count - 1;
        }

        boolean change(int p, int what, int n) {
            if (!exists(p)) {
                return false;
            }
            if (what == 0 && inside(n, 0, 100)) {
                gas[p] = n;
                return true;
            }
            if (what == 1 && inside(n, 0, 2000)) {
                men[p] = n;
                return true;
            }
            return false;
        }

        boolean setBook(int p, int n) {
            if (!exists(p) || !inside(n, 0, 2000)) {
                return false;
            }
            book[p] = n;
            return true;
        }

        boolean addFall(int p) {
            if (!exists(p) || fallCount >= MOST_FALLS) {
                return false;
            }
            falls[p]++;
            fallCount++;
            return true;
        }

        boolean isBeyondChance(int ofSeam) {
            long ownFalls = 0;
            long ownMen = 0;
            long allMen = 0;
            for (int p = 0; p < count; p++) {
                allMen += men[p];
                if (seam[p] == ofSeam) {
                    ownMen += men[p];
                    ownFalls += falls[p];
                }
            }
            long due = fallCount * ownMen;
            long above = ownFalls * allMen - due;
            return above > 0 && above * above > 4 * due * allMen;
        }
    }

    /** One act, or rules of one pit: its bytes, and its clauses as the Reader found them. */
    private static final class Text {
        int pit;
        int from;
        int to;
        int length;
        final byte[] bytes = new byte[MOST_BYTES];
        int clauses;
        final int[] kind = new int[MOST_CLAUSES];
        /** N of an f or a w, I of an x. */
        final int[] number = new int[MOST_CLAUSES];
        /** J of an x. */
        final int[] struckClause = new int[MOST_CLAUSES];
        final int[] byteFrom = new int[MOST_CLAUSES];
        final int[] byteTo = new int[MOST_CLAUSES];
        final int[] codeFrom = new int[MOST_CLAUSES];
        final int[] codeTo = new int[MOST_CLAUSES];
        /** The clauses that are struck for the pit asked last, as bits. */
        int struck;
        /** Steps of all conditions, what is worked on first and how behind it: no byte asks for two. */
        final int[] code = new int[MOST_BYTES];
        int codeLength;
        /** The letters that stand in it, as bits. */
        int letters;

        void begin(byte[] tape, int n) {
            length = Math.min(n, Math.min(tape.length, MOST_BYTES));
            System.arraycopy(tape, 0, bytes, 0, length);
            clauses = 0;
            codeLength = 0;
            letters = 0;
        }

        boolean isInForce(int day) {
            return from <= day && day <= to;
        }

        boolean isFor(int p, int day) {
            return (pit == NONE || pit == p) && isInForce(day);
        }

        boolean isStruck(int j) {
            return (struck >> j & 1) != 0;
        }

        boolean hasSameCondition(int j, Text other, int k) {
            int many = byteTo[j] - byteFrom[j];
            if (many != other.byteTo[k] - other.byteFrom[k]) {
                return false;
            }
            for (int b = 0; b < many; b++) {
                if (bytes[byteFrom[j] + b] != other.bytes[other.byteFrom[k] + b]) {
                    return false;
                }
            }
            return true;
        }

        int lastFine() {
            for (int j = clauses - 1; j >= 0; j--) {
                if (kind[j] == 'f' && !isStruck(j)) {
                    return number[j];
                }
            }
            return 0;
        }
    }

    /** Reads the clauses of a text, from the left, up to the first fault. */
    private static final class Reader {
        static final String LETTERS = "sdgmbaowlhyq";
        static final int PUSH_NUMBER = 'n';
        static final int PUSH_LETTER = 'l';
        static final int OP_MASK = 255;
        static final int OPERAND_SHIFT = 8;

        private static final int END = -1;
        private static final int MOST_DIGITS = 5;
        private static final int MOST_OPEN = 6;
        private static final int CANNOT_STAND = 1;
        private static final int SIXTH_DIGIT = 2;
        private static final int CANNOT_BE = 3;
        private static final int CLAUSE_TOO_MANY = 4;
        private static final int OPEN_TOO_MANY = 5;

        private Text text;
        private int at;
        private int value;
        private int faultCode;

        /** 0, or the fault as the document wants it answered. */
        int read(Text toRead) {
            text = toRead;
            at = 0;
            faultCode = 0;
            for (int j = 0; j <= MOST_CLAUSES; j++) {
                if (!clause(j) || peek() == END || !take(';')) {
                    return faultCode;
                }
            }
            return faultCode;
        }

        private int peek() {
            if (text == null || at >= text.length || at >= text.bytes.length) {
                return END;
            }
            return text.bytes[at] & 255;
        }

        private boolean fail(int fault, int place) {
            faultCode = -1000 * fault - place;
            return false;
        }

        private boolean take(int sign) {
            if (peek() != sign) {
                return fail(CANNOT_STAND, at);
            }
            at++;
            return true;
        }

        private boolean clause(int j) {
            int letter = peek();
            if (letter != 'd' && letter != 'n' && letter != 'w' && letter != 'f' && letter != 'x') {
                return fail(CANNOT_STAND, at);
            }
            if (j >= MOST_CLAUSES) {
                return fail(CLAUSE_TOO_MANY, at);
            }
            at++;
            text.kind[j] = letter;
            text.clauses = j + 1;
            if (letter == 'x') {
                return strike(j);
            }
            if (letter != 'f') {
                text.byteFrom[j] = at + 1;
                text.codeFrom[j] = text.codeLength;
                if (!take('(') || !condition(1)) {
                    return false;
                }
                text.byteTo[j] = at;
                text.codeTo[j] = text.codeLength;
                if (!take(')')) {
                    return false;
                }
            }
            if ((letter == 'f' || letter == 'w') && !number()) {
                return false;
            }
            text.number[j] = value;
            return true;
        }

        private boolean strike(int j) {
            if (!numberUpTo(MOST_TEXTS - 1)) {
                return false;
            }
            text.number[j] = value;
            if (!take('.') || !numberUpTo(MOST_CLAUSES - 1)) {
                return false;
            }
            text.struckClause[j] = value;
            return true;
        }

        private boolean numberUpTo(int highest) {
            int first = at;
            if (!number()) {
                return false;
            }
            return value <= highest || fail(CANNOT_BE, first);
        }

        private boolean number() {
            value = 0;
            for (int digits = 0; digits <= MOST_DIGITS; digits++) {
                int sign = peek();
                if (!isDigit(sign)) {
                    return digits > 0 || fail(CANNOT_STAND, at);
                }
                if (digits == MOST_DIGITS) {
                    return fail(SIXTH_DIGIT, at);
                }
                value = value * 10 + sign - '0';
                at++;
            }
            return false;
        }

        private static boolean isDigit(int sign) {
            return sign >= '0' && sign <= '9';
        }

        private boolean condition(int open) {
            int jumps = NONE;
            for (int parts = 0; parts < MOST_BYTES; parts++) {
                if (!part(open)) {
                    return false;
                }
                if (peek() != '|') {
                    land(jumps);
                    return true;
                }
                at++;
                jumps = jump('|', jumps);
            }
            return false;
        }

        private boolean part(int open) {
            int jumps = NONE;
            for (int pieces = 0; pieces < MOST_BYTES; pieces++) {
                if (!piece(open)) {
                    return false;
                }
                if (peek() != '&') {
                    land(jumps);
                    return true;
                }
                at++;
                jumps = jump('&', jumps);
            }
            return false;
        }

        private boolean piece(int open) {
            int sign = peek();
            if (sign == '!' || sign == '(') {
                return open < MOST_OPEN ? opened(sign, open + 1) : fail(OPEN_TOO_MANY, at);
            }
            if (!sum(open)) {
                return false;
            }
            int compares = peek();
            if (compares != '<' && compares != '>' && compares != '=') {
                return fail(CANNOT_STAND, at);
            }
            at++;
            return sum(open) && emit(compares, 0);
        }

        private boolean opened(int sign, int open) {
            at++;
            if (sign == '!') {
                return piece(open) && emit('!', 0);
            }
            return condition(open) && take(')');
        }

        private boolean sum(int open) {
            if (!product(open)) {
                return false;
            }
            for (int terms = 1; terms < MOST_BYTES; terms++) {
                int sign = peek();
                if (sign != '+' && sign != '-') {
                    return true;
                }
                at++;
                if (!product(open) || !emit(sign, 0)) {
                    return false;
                }
            }
            return false;
        }

        private boolean product(int open) {
            if (!factor(open)) {
                return false;
            }
            for (int factors = 1; factors < MOST_BYTES; factors++) {
                int sign = peek();
                if (sign != '*' && sign != '/' && sign != '%') {
                    return true;
                }
                at++;
                if (!factor(open) || !emit(sign, 0)) {
                    return false;
                }
            }
            return false;
        }

        private boolean factor(int open) {
            int sign = peek();
            if (sign == '[') {
                if (open >= MOST_OPEN) {
                    return fail(OPEN_TOO_MANY, at);
                }
                at++;
                return sum(open + 1) && take(']');
            }
            if (isDigit(sign)) {
                return number() && emit(PUSH_NUMBER, value);
            }
            int letter = sign == END ? NONE : LETTERS.indexOf((char) sign);
            if (letter < 0) {
                return fail(CANNOT_STAND, at);
            }
            at++;
            text.letters |= 1 << letter;
            return emit(PUSH_LETTER, letter);
        }

        /** Always true; the code has room for every byte, so nothing is ever left out. */
        private boolean emit(int op, int operand) {
            if (text.codeLength < text.code.length) {
                text.code[text.codeLength] = operand << OPERAND_SHIFT | op;
                text.codeLength++;
            }
            return true;
        }

        /** A jump whose end is not known yet holds, till then, the one before it (and 1). */
        private int jump(int op, int before) {
            emit(op, before + 1);
            return text.codeLength - 1;
        }

        private void land(int lastJump) {
            int i = lastJump;
            for (int jumps = 0; jumps < MOST_BYTES && i >= 0 && i < text.code.length; jumps++) {
                int before = (text.code[i] >> OPERAND_SHIFT) - 1;
                text.code[i] = text.codeLength << OPERAND_SHIFT | text.code[i] & OP_MASK;
                i = before;
            }
        }
    }

    /** All texts, and what they ask of one pit. */
    private static final class Laws {
        /** Places of the letters in Reader.LETTERS. */
        static final int SEAM = 0;
        static final int DEPTH = 1;
        static final int GAS = 2;
        static final int MEN = 3;
        static final int BELOW = 4;
        static final int LEAST_AIR = 5;
        static final int FEWEST_WAYS = 6;
        static final int NEAREST = 7;
        static final int LAMPS_OUT = 8;
        static final int HOUR = 9;
        static final int DAY = 10;
        static final int SHOTS = 11;
        private static final int LETTERS = 12;
        /** Above what six levels can hold at once: three numbers each, and one answer. */
        private static final int STACK = 32;

        final long[] facts = new long[LETTERS];
        int count;
        private final Text[] texts = new Text[MOST_TEXTS];
        /** The tape is read into it: only a text without a fault costs a new one. */
        private Text spare = new Text();
        private final Reader reader = new Reader();
        private int letters;
        private final long[] stack = new long[STACK];
        /** What is broken: 12 times the text, and the clause. */
        private final int[] broken = new int[MOST_TEXTS * MOST_CLAUSES];
        private int brokenCount;

        boolean exists(int i) {
            return i >= 0 && i < count;
        }

        boolean areFull() {
            return count >= MOST_TEXTS;
        }

        boolean areRules(int i) {
            return exists(i) && texts[i].pit != NONE;
        }

        boolean hasClause(int i, int j) {
            return exists(i) && j >= 0 && j < texts[i].clauses;
        }

        boolean ask(int letter) {
            return (letters >> letter & 1) != 0;
        }

        int enact(byte[] tape, int n, int pit, int from, int to) {
            if (areFull()) {
                return NONE;
            }
            spare.begin(tape, n);
            int fault = reader.read(spare);
            if (fault != 0) {
                return fault;
            }
            spare.pit = pit;
            spare.from = from;
            spare.to = to;
            letters |= spare.letters;
            texts[count] = spare;
            spare = new Text();
            count++;
            return count - 1;
        }

        int countingClauses(int i, int p, int day) {
            if (!exists(i) || !texts[i].isFor(p, day)) {
                return 0;
            }
            strikeFor(p, day);
            int many = 0;
            for (int j = 0; j < texts[i].clauses; j++) {
                if (!texts[i].isStruck(j)) {
                    many++;
                }
            }
            return many;
        }

        private void strikeFor(int p, int day) {
            for (int i = 0; i < count; i++) {
                texts[i].struck = 0;
            }
            for (int i = count - 1; i >= 0; i--) {
                Text text = texts[i];
                for (int j = 0; j < text.clauses && text.isFor(p, day); j++) {
                    if (text.kind[j] == 'x' && !text.isStruck(j)) {
                        strikeBelow(i, j);
                    }
                }
            }
        }

        private void strikeBelow(int i, int j) {
            int lower = texts[i].number[j];
            if (lower < 0 || lower >= i) {
                return;
            }
            if (texts[i].pit == NONE || texts[i].pit == texts[lower].pit) {
                texts[lower].struck |= 1 << texts[i].struckClause[j];
            }
        }

        int findBroken(int p, int day) {
            strikeFor(p, day);
            brokenCount = 0;
            for (int i = 0; i < count; i++) {
                for (int j = 0; j < texts[i].clauses && texts[i].isFor(p, day); j++) {
                    if (isBroken(texts[i], j)) {
                        broken[brokenCount] = i * MOST_CLAUSES + j;
                        brokenCount++;
                    }
                }
            }
            return brokenCount;
        }

        private boolean isBroken(Text text, int j) {
            if (text.isStruck(j)) {
                return false;
            }
            if (text.kind[j] == 'd') {
                return reckon(text, j) != 1;
            }
            return text.kind[j] == 'n' && reckon(text, j) != 0;
        }

        int brokenText(int k) {
            return inside(k, 0, brokenCount - 1) ? broken[k] / MOST_CLAUSES : NONE;
        }

        int brokenClause(int k) {
            return inside(k, 0, brokenCount - 1) ? broken[k] % MOST_CLAUSES : NONE;
        }

        long fineOfBroken() {
            long pounds = 0;
            for (int k = 0; k < brokenCount; k++) {
                pounds += texts[broken[k] / MOST_CLAUSES].lastFine();
            }
            return pounds;
        }

        int hoursToAct(int p, int day) {
            strikeFor(p, day);
            for (int i = count - 1; i >= 0; i--) {
                Text text = texts[i];
                for (int j = text.clauses - 1; j >= 0 && text.isFor(p, day); j--) {
                    if (text.kind[j] == 'w' && !text.isStruck(j) && reckon(text, j) == 1) {
                        return text.number[j];
                    }
                }
            }
            return NONE;
        }

        boolean isWithinActs(int i, int day) {
            for (int act = 0; act < count; act++) {
                if (texts[act].pit == NONE && texts[act].isInForce(day) && areAtOdds(texts[i], texts[act])) {
                    return false;
                }
            }
            return true;
        }

        private static boolean areAtOdds(Text rules, Text act) {
            for (int j = 0; j < rules.clauses; j++) {
                for (int k = 0; k < act.clauses; k++) {
                    boolean opposed = rules.kind[j] == 'd' && act.kind[k] == 'n'
                        || rules.kind[j] == 'n' && act.kind[k] == 'd';
                    if (opposed && rules.hasSameCondition(j, act, k)) {
                        return true;
                    }
                }
            }
            return false;
        }

        int clauseHolds(int i, int j) {
            if (!hasClause(i, j)) {
                return NONE;
            }
            int kind = texts[i].kind[j];
            return kind == 'f' || kind == 'x' ? 1 : reckon(texts[i], j);
        }

        /** Whether a clause's condition holds by the facts: 1, 0, or 2 where it is refused. */
        private int reckon(Text text, int j) {
            int top = 0;
            for (int i = text.codeFrom[j]; i < text.codeTo[j]; i++) {
                int op = text.code[i] & Reader.OP_MASK;
                int operand = text.code[i] >> Reader.OPERAND_SHIFT;
                if (op == Reader.PUSH_NUMBER || op == Reader.PUSH_LETTER) {
                    if (top >= stack.length) {
                        return REFUSED;
                    }
                    stack[top] = op == Reader.PUSH_NUMBER ? operand : facts[operand];
                    top++;
                } else if (top < 1) {
                    return REFUSED;
                } else if (op == '!') {
                    stack[top - 1] = 1 - stack[top - 1];
                } else if (op == '&' || op == '|') {
                    if ((stack[top - 1] != 0) == (op == '|')) {
                        i = Math.max(i, operand - 1);
                    } else {
                        top--;
                    }
                } else {
                    boolean divides = op == '/' || op == '%';
                    if (top < 2 || divides && stack[top - 1] == 0) {
                        return REFUSED;
                    }
                    top--;
                    stack[top - 1] = apply(op, stack[top - 1], stack[top]);
                }
            }
            return top == 1 && stack[0] != 0 ? 1 : 0;
        }

        private static long apply(int op, long a, long b) {
            switch (op) {
                case '+': return a + b;
                case '-': return a - b;
                case '*': return a * b;
                case '/': return b == 0 ? 0 : a / b;
                case '%': return b == 0 ? 0 : a % b;
                case '<': return a < b ? 1 : 0;
                case '>': return a > b ? 1 : 0;
                default: return a == b ? 1 : 0;
            }
        }
    }

    /** The places and roads of all pits, how far they are, and the ways out. */
    private static final class Net {
        static final int MOST_PLACES = 80;
        static final int MOST_ROADS = 150;
        private static final int NO_DOOR = 0;
        private static final int SHUT = 1;
        private static final int OPEN = 2;
        private static final int UNKNOWN = -2;

        int placeCount;
        int roadCount;
        final int[] width = new int[MOST_ROADS];
        /** Road r has the ends 2r and 2r + 1: the other end of e is e ^ 1. */
        final int[] endPlace = new int[2 * MOST_ROADS];
        /** All ends, by places, then by roads: those of a place from its first to that of the next place. */
        final int[] ends = new int[2 * MOST_ROADS];
        final int[] firstEnd = new int[MOST_PLACES + 1];
        final int[] steps = new int[MOST_PLACES];
        /** Places that measure() has come to, from the nearest on. */
        final int[] order = new int[MOST_PLACES];
        int reached;
        private final int[] doors = new int[MOST_ROADS];
        private final int[] placePit = new int[MOST_PLACES];
        private final int[] bank = new int[MOST_PITS];
        /** 1 if a way goes from end 2r to end 2r + 1, -1 if it goes back. */
        private final int[] flow = new int[MOST_ROADS];
        private final int[] endLeft = new int[MOST_PLACES];
        private final int[] fewestKnown = new int[MOST_PITS];

        Net() {
            Arrays.fill(bank, NONE);
            Arrays.fill(fewestKnown, UNKNOWN);
        }

        boolean hasPlace(int place) {
            return place >= 0 && place < placeCount;
        }

        boolean hasRoad(int r) {
            return r >= 0 && r < roadCount;
        }

        boolean hasDoor(int r) {
            return hasRoad(r) && doors[r] != NO_DOOR;
        }

        boolean isOpen(int r) {
            return doors[r] != SHUT;
        }

        boolean isOfPit(int place, int p) {
            return hasPlace(place) && placePit[place] == p;
        }

        boolean isBank(int place) {
            return bank[placePit[place]] == place;
        }

        int pitOfRoad(int r) {
            return placePit[endPlace[2 * r]];
        }

        int addPlace(int p) {
            if (placeCount >= MOST_PLACES) {
                return NONE;
            }
            placePit[placeCount] = p;
            if (bank[p] == NONE) {
                bank[p] = placeCount;
            }
            fewestKnown[p] = UNKNOWN;
            firstEnd[placeCount + 1] = firstEnd[placeCount];
            placeCount++;
            return placeCount - 1;
        }

        int addRoad(int a, int b, int wide, boolean door) {
            if (roadCount >= MOST_ROADS || a == b || !hasPlace(a) || !isOfPit(b, placePit[a])) {
                return NONE;
            }
            if (!inside(wide, 1, 100)) {
                return NONE;
            }
            int r = roadCount;
            width[r] = wide;
            doors[r] = door ? SHUT : NO_DOOR;
            addEnd(2 * r, a);
            addEnd(2 * r + 1, b);
            fewestKnown[placePit[a]] = UNKNOWN;
            roadCount++;
            return r;
        }

        private void addEnd(int end, int place) {
            int at = firstEnd[place + 1];
            System.arraycopy(ends, at, ends, at + 1, firstEnd[placeCount] - at);
            ends[at] = end;
            endPlace[end] = place;
            for (int q = place + 1; q <= placeCount; q++) {
                firstEnd[q]++;
            }
        }

        void setDoor(int r, boolean open) {
            doors[r] = open ? OPEN : SHUT;
        }

        /** The fewest roads from a place to all others, into steps; NONE where there is no way. */
        void measure(int from, boolean shutToo) {
            Arrays.fill(steps, NONE);
            steps[from] = 0;
            order[0] = from;
            reached = 1;
            for (int i = 0; i < reached && i < order.length; i++) {
                int here = order[i];
                for (int k = firstEnd[here]; k < firstEnd[here + 1]; k++) {
                    int there = endPlace[ends[k] ^ 1];
                    if (steps[there] == NONE && (shutToo || isOpen(ends[k] / 2))) {
                        steps[there] = steps[here] + 1;
                        order[reached] = there;
                        reached++;
                    }
                }
            }
        }

        int fewestWays(int p) {
            if (fewestKnown[p] != UNKNOWN) {
                return fewestKnown[p];
            }
            int fewest = NONE;
            for (int place = 0; place < placeCount; place++) {
                if (placePit[place] == p && !isBank(place)) {
                    fewest = waysOut(place, fewest == NONE ? MOST_ROADS : fewest);
                }
            }
            fewestKnown[p] = fewest;
            return fewest;
        }

        /** Ways from a place to its bank that share no road; more than enough are not looked for. */
        int waysOut(int place, int enough) {
            Arrays.fill(flow, 0);
            int ways = 0;
            while (ways < enough && addWay(place, bank[placePit[place]])) {
                ways++;
            }
            return ways;
        }

        private boolean addWay(int from, int to) {
            if (!findWay(from, to)) {
                return false;
            }
            int here = to;
            for (int roads = 0; roads < MOST_PLACES && here != from; roads++) {
                int end = endLeft[here];
                flow[end / 2] += direction(end);
                here = endPlace[end];
            }
            return true;
        }

        private boolean findWay(int from, int to) {
            Arrays.fill(endLeft, NONE);
            order[0] = from;
            reached = 1;
            for (int i = 0; i < reached && i < order.length && endLeft[to] == NONE; i++) {
                int here = order[i];
                for (int k = firstEnd[here]; k < firstEnd[here + 1]; k++) {
                    int end = ends[k];
                    int there = endPlace[end ^ 1];
                    if (there != from && endLeft[there] == NONE && flow[end / 2] != direction(end)) {
                        endLeft[there] = end;
                        order[reached] = there;
                        reached++;
                    }
                }
            }
            return endLeft[to] != NONE;
        }

        private static int direction(int end) {
            return (end & 1) == 0 ? 1 : -1;
        }
    }

    /** The fans, and how their air is split over the open roads. */
    private static final class Air {
        private static final int UNKNOWN = -2;

        private final int[] fanDown = new int[MOST_PITS];
        private final int[] fanUp = new int[MOST_PITS];
        private final int[] fanAir = new int[MOST_PITS];
        private final int[] roadAir = new int[Net.MOST_ROADS];
        private final int[] came = new int[Net.MOST_PLACES];
        private final int[] leastKnown = new int[MOST_PITS];

        Air() {
            Arrays.fill(fanDown, NONE);
            Arrays.fill(leastKnown, UNKNOWN);
        }

        void forget(int p) {
            leastKnown[p] = UNKNOWN;
        }

        boolean setFan(int p, int down, int up, int air) {
            if (down == up || !inside(air, 0, 1000000)) {
                return false;
            }
            fanDown[p] = down;
            fanUp[p] = up;
            fanAir[p] = air;
            forget(p);
            return true;
        }

        int ofRoad(Net net, int r) {
            leastOf(net, net.pitOfRoad(r));
            return roadAir[r];
        }

        int leastOf(Net net, int p) {
            if (leastKnown[p] == UNKNOWN) {
                leastKnown[p] = splitAll(net, p);
            }
            return leastKnown[p];
        }

        /** The door is turned, all is split anew, and the door is turned back. */
        int tryDoor(Net net, int r) {
            boolean wasOpen = net.isOpen(r);
            net.setDoor(r, !wasOpen);
            int least = splitAll(net, net.pitOfRoad(r));
            net.setDoor(r, wasOpen);
            forget(net.pitOfRoad(r));
            return least;
        }

        int worstDoor(Net net, int p) {
            int worst = NONE;
            int worstLeast = 0;
            for (int r = 0; r < net.roadCount; r++) {
                if (net.hasDoor(r) && net.pitOfRoad(r) == p) {
                    int least = tryDoor(net, r);
                    if (worst == NONE || least < worstLeast) {
                        worst = r;
                        worstLeast = least;
                    }
                }
            }
            return worst;
        }

        private int splitAll(Net net, int p) {
            for (int r = 0; r < net.roadCount; r++) {
                if (net.pitOfRoad(r) == p) {
                    roadAir[r] = 0;
                }
            }
            if (fanDown[p] == NONE) {
                return NONE;
            }
            net.measure(fanUp[p], false);
            if (net.steps[fanDown[p]] != NONE) {
                Arrays.fill(came, 0);
                came[fanDown[p]] = fanAir[p];
                for (int i = net.reached - 1; i > 0; i--) {
                    splitAt(net, net.order[i]);
                }
            }
            return leastOpen(net, p);
        }

        private void splitAt(Net net, int here) {
            int wide = 0;
            for (int k = net.firstEnd[here]; k < net.firstEnd[here + 1]; k++) {
                if (came[here] > 0 && leadsOn(net, here, net.ends[k])) {
                    wide += net.width[net.ends[k] / 2];
                }
            }
            if (wide == 0) {
                return;
            }
            int left = came[here];
            for (int k = net.firstEnd[here]; k < net.firstEnd[here + 1]; k++) {
                int r = net.ends[k] / 2;
                if (leadsOn(net, here, net.ends[k])) {
                    roadAir[r] = came[here] * net.width[r] / wide;
                    left -= roadAir[r];
                }
            }
            for (int k = net.firstEnd[here]; k < net.firstEnd[here + 1]; k++) {
                int r = net.ends[k] / 2;
                if (leadsOn(net, here, net.ends[k])) {
                    if (left > 0) {
                        roadAir[r]++;
                        left--;
                    }
                    came[net.endPlace[net.ends[k] ^ 1]] += roadAir[r];
                }
            }
        }

        private static boolean leadsOn(Net net, int here, int end) {
            return net.isOpen(end / 2) && net.steps[net.endPlace[end ^ 1]] == net.steps[here] - 1;
        }

        private int leastOpen(Net net, int p) {
            int least = NONE;
            for (int r = 0; r < net.roadCount; r++) {
                if (net.pitOfRoad(r) == p && net.isOpen(r) && (least == NONE || roadAir[r] < least)) {
                    least = roadAir[r];
                }
            }
            return least;
        }
    }

    /** Plans, and the points on them: old water, then faces, then two for each join. */
    private static final class Survey {
        private static final int MOST_PLANS = 15;
        private static final int MOST_OF_A_KIND = 30;
        private static final int FIRST_FACE = MOST_OF_A_KIND;
        private static final int FIRST_JOIN = 2 * MOST_OF_A_KIND;
        private static final int MOST_POINTS = 4 * MOST_OF_A_KIND;
        private static final int NOTHING_NEAR = 99999;
        private static final int MOST_ERROR = 1000;
        private static final int FARTHEST = 100000;

        int planCount;
        int waterCount;
        int faceCount;
        int joinCount;
        private final int[] planError = new int[MOST_PLANS];
        private final int[] planTurn = new int[MOST_PLANS];
        private final int[] planX = new int[MOST_PLANS];
        private final int[] planY = new int[MOST_PLANS];
        private final int[] pointPlan = new int[MOST_POINTS];
        private final int[] pointX = new int[MOST_POINTS];
        private final int[] pointY = new int[MOST_POINTS];
        private final int[] facePit = new int[MOST_OF_A_KIND];
        private final int[] joinError = new int[MOST_OF_A_KIND];

        boolean hasWater(int v) {
            return v >= 0 && v < waterCount;
        }

        boolean hasFace(int f) {
            return f >= 0 && f < faceCount;
        }

        boolean isPoint(int k, int x, int y) {
            return k >= 0 && k < planCount && areInReach(x, y);
        }

        private static boolean areInReach(int x, int y) {
            return inside(x, -FARTHEST, FARTHEST) && inside(y, -FARTHEST, FARTHEST);
        }

        int addPlan(int error, int turn, int x, int y) {
            if (planCount >= MOST_PLANS || !inside(error, 0, MOST_ERROR) || !inside(turn, 0, 3)) {
                return NONE;
            }
            if (!areInReach(x, y)) {
                return NONE;
            }
            planError[planCount] = error;
            planTurn[planCount] = turn;
            planX[planCount] = x;
            planY[planCount] = y;
            planCount++;
            return planCount - 1;
        }

        boolean setShift(int k, int x, int y) {
            if (!isPoint(k, x, y)) {
                return false;
            }
            planX[k] = x;
            planY[k] = y;
            return true;
        }

        int addWater(int k, int x, int y) {
            if (waterCount >= MOST_OF_A_KIND || !isPoint(k, x, y)) {
                return NONE;
            }
            setPoint(waterCount, k, x, y);
            waterCount++;
            return waterCount - 1;
        }

        int addFace(int p, int k, int x, int y) {
            if (faceCount >= MOST_OF_A_KIND || !isPoint(k, x, y)) {
                return NONE;
            }
            setPoint(FIRST_FACE + faceCount, k, x, y);
            facePit[faceCount] = p;
            faceCount++;
            return faceCount - 1;
        }

        int nextJoin(int error) {
            if (joinCount >= MOST_OF_A_KIND || !inside(error, 0, MOST_ERROR)) {
                return NONE;
            }
            joinError[joinCount] = error;
            joinCount++;
            return joinCount - 1;
        }

        void setJoin(int j, int side, int k, int x, int y) {
            setPoint(FIRST_JOIN + 2 * j + side, k, x, y);
        }

        private void setPoint(int point, int k, int x, int y) {
            pointPlan[point] = k;
            pointX[point] = x;
            pointY[point] = y;
        }

        private int trueX(int point) {
            int k = pointPlan[point];
            switch (planTurn[k]) {
                case 0: return planX[k] + pointX[point];
                case 1: return planX[k] - pointY[point];
                case 2: return planX[k] - pointX[point];
                default: return planX[k] + pointY[point];
            }
        }

        private int trueY(int point) {
            int k = pointPlan[point];
            switch (planTurn[k]) {
                case 0: return planY[k] + pointY[point];
                case 1: return planY[k] + pointX[point];
                case 2: return planY[k] - pointY[point];
                default: return planY[k] - pointX[point];
            }
        }

        private int far(int a, int b) {
            return Math.max(Math.abs(trueX(a) - trueX(b)), Math.abs(trueY(a) - trueY(b)));
        }

        private int doubt(int a, int b) {
            int error = planError[pointPlan[a]];
            return pointPlan[a] == pointPlan[b] ? error : error + planError[pointPlan[b]];
        }

        int leastYards(int f, int v) {
            return Math.max(0, far(FIRST_FACE + f, v) - doubt(FIRST_FACE + f, v));
        }

        int mostYards(int f, int v) {
            return far(FIRST_FACE + f, v) + doubt(FIRST_FACE + f, v);
        }

        int nearestOfFace(int f) {
            if (waterCount == 0) {
                return NOTHING_NEAR;
            }
            int near = leastYards(f, 0);
            for (int v = 1; v < waterCount; v++) {
                near = Math.min(near, leastYards(f, v));
            }
            return near;
        }

        int nearestOfPit(int p) {
            int near = NONE;
            for (int f = 0; f < faceCount; f++) {
                if (facePit[f] == p) {
                    int ofFace = nearestOfFace(f);
                    near = near == NONE ? ofFace : Math.min(near, ofFace);
                }
            }
            return near == NONE ? NOTHING_NEAR : near;
        }

        int facesMovedNear(int k, int x, int y, int yards) {
            if (!isPoint(k, x, y) || !inside(yards, 1, 99999)) {
                return NONE;
            }
            int before = facesNearer(yards);
            int oldX = planX[k];
            int oldY = planY[k];
            setShift(k, x, y);
            int after = facesNearer(yards);
            setShift(k, oldX, oldY);
            return after & ~before;
        }

        private int facesNearer(int yards) {
            int bits = 0;
            for (int f = 0; f < faceCount; f++) {
                if (nearestOfFace(f) < yards) {
                    bits |= 1 << f;
                }
            }
            return bits;
        }

        int firstTorn() {
            for (int j = 0; j < joinCount; j++) {
                int a = FIRST_JOIN + 2 * j;
                if (far(a, a + 1) > doubt(a, a + 1) + joinError[j]) {
                    return j;
                }
            }
            return NONE;
        }
    }

    /** The hands, their lamps and outings, and the shots they fire. */
    private static final class Crew {
        private static final int MOST_LAMPS = 60;
        private static final int MOST_OUTINGS = 300;
        private static final int MOST_SHOTS = 300;
        private static final int SHOTMAN = 3;

        int count;
        final int[] pit = new int[MOST_HANDS];
        final int[] duty = new int[MOST_HANDS];
        /** The outing a hand is on. */
        private final int[] outing = new int[MOST_HANDS];
        int lampCount;
        private final int[] lampLot = new int[MOST_LAMPS];
        private final boolean[] lampIsOut = new boolean[MOST_LAMPS];
        int outingCount;
        private final int[] outingHand = new int[MOST_OUTINGS];
        private final int[] outingLamp = new int[MOST_OUTINGS];
        private final int[] outingEnd = new int[MOST_OUTINGS];
        final int[] below = new int[MOST_PITS];
        final int[] lampsOut = new int[MOST_PITS];
        int shotCount;
        private final int[] shotPit = new int[MOST_SHOTS];
        private final int[] shotMinute = new int[MOST_SHOTS];

        boolean exists(int h) {
            return h >= 0 && h < count;
        }

        boolean isBelow(int h) {
            return outing[h] != NONE;
        }

        int lampOf(int h) {
            return isBelow(h) ? outingLamp[outing[h]] : NONE;
        }

        int hire(int p, int withDuty) {
            if (count >= MOST_HANDS || !inside(withDuty, 0, 4)) {
                return NONE;
            }
            pit[count] = p;
            duty[count] = withDuty;
            outing[count] = NONE;
            count++;
            return count - 1;
        }

        int addLamp(int lot) {
            if (lampCount >= MOST_LAMPS || !inside(lot, 0, 9)) {
                return NONE;
            }
            lampLot[lampCount] = lot;
            lampCount++;
            return lampCount - 1;
        }

        boolean goDown(int h, int lamp) {
            if (!exists(h) || isBelow(h) || outingCount >= MOST_OUTINGS) {
                return false;
            }
            if (lamp != NONE && (!inside(lamp, 0, lampCount - 1) || lampIsOut[lamp])) {
                return false;
            }
            if (lamp != NONE) {
                lampIsOut[lamp] = true;
                lampsOut[pit[h]]++;
            }
            outingHand[outingCount] = h;
            outingLamp[outingCount] = lamp;
            outingEnd[outingCount] = NONE;
            outing[h] = outingCount;
            outingCount++;
            below[pit[h]]++;
            return true;
        }

        boolean goUp(int h, int minute) {
            if (!exists(h) || !isBelow(h)) {
                return false;
            }
            int lamp = lampOf(h);
            if (lamp != NONE) {
                lampIsOut[lamp] = false;
                lampsOut[pit[h]]--;
            }
            outingEnd[outing[h]] = minute;
            outing[h] = NONE;
            below[pit[h]]--;
            return true;
        }

        int hadLot(int lot, int minute, int half) {
            if (!inside(lot, 0, 9)) {
                return NONE;
            }
            int bits = 0;
            for (int o = 0; o < outingCount; o++) {
                boolean ofLot = outingLamp[o] != NONE && lampLot[outingLamp[o]] == lot;
                boolean lasts = outingEnd[o] == NONE || outingEnd[o] >= minute;
                if (ofLot && lasts && outingHand[o] / HALF_OF_HANDS == half) {
                    bits |= 1 << outingHand[o] % HALF_OF_HANDS;
                }
            }
            return bits;
        }

        boolean fire(int h, int minute) {
            if (!exists(h) || duty[h] != SHOTMAN || !isBelow(h) || shotCount >= MOST_SHOTS) {
                return false;
            }
            shotPit[shotCount] = pit[h];
            shotMinute[shotCount] = minute;
            shotCount++;
            return true;
        }

        int shotsBetween(int p, int from, int to) {
            int many = 0;
            for (int s = 0; s < shotCount; s++) {
                int hour = shotMinute[s] / 60 % 24;
                if (shotPit[s] == p && hour >= from && hour < to) {
                    many++;
                }
            }
            return many;
        }

        int shotsAfter(int p, int minute) {
            int many = 0;
            for (int s = 0; s < shotCount; s++) {
                if (shotPit[s] == p && shotMinute[s] > minute) {
                    many++;
                }
            }
            return many;
        }
    }

    /** The warnings, since when each hand knows them, and who has acted. */
    private static final class Warnings {
        private static final int MOST_WARNINGS = 60;
        private static final int LAST_BOUND_DUTY = 2;

        int count;
        final int[] pit = new int[MOST_WARNINGS];
        /** Of warning w and hand h at 40 w + h. */
        private final int[] knownSince = new int[MOST_WARNINGS * MOST_HANDS];
        /** Hands as bits. */
        private final long[] acted = new long[MOST_WARNINGS];

        Warnings() {
            Arrays.fill(knownSince, NONE);
        }

        boolean exists(int w) {
            return w >= 0 && w < count;
        }

        int raise(int h, int ofPit, int minute) {
            if (count >= MOST_WARNINGS) {
                return NONE;
            }
            pit[count] = ofPit;
            knownSince[count * MOST_HANDS + h] = minute;
            count++;
            return count - 1;
        }

        private boolean isKnown(int w, int h) {
            return knownSince[w * MOST_HANDS + h] != NONE;
        }

        private boolean hasActed(int w, int h) {
            return (acted[w] >> h & 1) != 0;
        }

        boolean pass(int w, int a, int b, int minute) {
            if (!isKnown(w, a) || isKnown(w, b)) {
                return false;
            }
            knownSince[w * MOST_HANDS + b] = minute;
            return true;
        }

        boolean heed(int w, int h) {
            if (!isKnown(w, h) || hasActed(w, h)) {
                return false;
            }
            acted[w] |= 1L << h;
            return true;
        }

        int knownTo(int w, int minute, int half) {
            int bits = 0;
            for (int b = 0; b < HALF_OF_HANDS; b++) {
                int h = half * HALF_OF_HANDS + b;
                if (isKnown(w, h) && knownSince[w * MOST_HANDS + h] <= minute) {
                    bits |= 1 << b;
                }
            }
            return bits;
        }

        /** Those bound to act who knew it ahead of a minute and have not. */
        int idleSince(int w, int minute, int half, Crew crew) {
            int bits = 0;
            for (int b = 0; b < HALF_OF_HANDS; b++) {
                int h = half * HALF_OF_HANDS + b;
                boolean bound = crew.exists(h) && crew.duty[h] <= LAST_BOUND_DUTY;
                if (bound && isKnown(w, h) && knownSince[w * MOST_HANDS + h] < minute && !hasActed(w, h)) {
                    bits |= 1 << b;
                }
            }
            return bits;
        }
    }

    /** The looks that were sent last, and who looked last at each pit. */
    private static final class Looks {
        static final int MODULUS = 134456;
        private static final int MULTIPLIER = 8121;
        private static final int ADDEND = 28411;
        private static final int MOST_DRAWS = 60;
        private static final int MOST_INSPECTORS = 16;

        int count;
        final int[] worths = new int[MOST_PITS];
        private int inspectorCount = 1;
        private final int[] lookPit = new int[MOST_PITS];
        private final int[] lookBy = new int[MOST_PITS];
        private final int[] lastBy = new int[MOST_PITS];
        /** The pits that have a look of those sent last, as bits. */
        private int looked;

        Looks() {
            Arrays.fill(lastBy, NONE);
        }

        boolean setInspectors(int n) {
            if (!inside(n, 1, MOST_INSPECTORS)) {
                return false;
            }
            inspectorCount = n;
            return true;
        }

        int give(int n, int toDraw, int seed, int pitCount) {
            looked = 0;
            count = 0;
            draw(toDraw, seed, pitCount);
            int drawn = count;
            for (int k = drawn; k < n; k++) {
                add(worthiest(pitCount));
            }
            return drawn;
        }

        private boolean hasLook(int p) {
            return (looked >> p & 1) != 0;
        }

        private void draw(int toDraw, int seed, int pitCount) {
            int x = seed;
            for (int times = 0; times < MOST_DRAWS && count < toDraw && pitCount > 0; times++) {
                x = (MULTIPLIER * x + ADDEND) % MODULUS;
                int p = x % pitCount;
                if (!hasLook(p)) {
                    add(p);
                }
            }
        }

        private int worthiest(int pitCount) {
            int best = NONE;
            for (int p = 0; p < pitCount; p++) {
                if (!hasLook(p) && (best == NONE || worths[p] > worths[best])) {
                    best = p;
                }
            }
            return best;
        }

        private void add(int p) {
            if (p == NONE || count >= MOST_PITS || inspectorCount < 1) {
                return;
            }
            int by = count % inspectorCount;
            if (lastBy[p] == by) {
                by = (by + 1) % inspectorCount;
            }
            looked |= 1 << p;
            lastBy[p] = by;
            lookPit[count] = p;
            lookBy[count] = by;
            count++;
        }

        int tellOf(int k, int what) {
            if (!inside(k, 0, count - 1) || !inside(what, 0, 1)) {
                return NONE;
            }
            return what == 0 ? lookPit[k] : lookBy[k];
        }
    }

    /** What was seen, and which of it can all be. */
    private static final class Inquest {
        private static final int MOST_SEEN = 16;
        private static final int MOST_PACE = 60;

        int count;
        private final int[] hand = new int[MOST_SEEN];
        private final int[] place = new int[MOST_SEEN];
        private final int[] minute = new int[MOST_SEEN];
        /** With which others each one can't be, as bits. */
        private final int[] clashes = new int[MOST_SEEN];
        private int minutesPerRoad = 5;

        int add(int h, int atPlace, int atMinute) {
            if (count >= MOST_SEEN) {
                return NONE;
            }
            hand[count] = h;
            place[count] = atPlace;
            minute[count] = atMinute;
            count++;
            return count - 1;
        }

        boolean setPace(int n) {
            if (!inside(n, 1, MOST_PACE)) {
                return false;
            }
            minutesPerRoad = n;
            return true;
        }

        boolean isSet(int set) {
            return inside(set, 0, (1 << count) - 1);
        }

        void findClashes(Net net) {
            for (int i = 0; i < count; i++) {
                clashes[i] = 0;
                net.measure(place[i], true);
                for (int j = 0; j < count; j++) {
                    if (hand[i] == hand[j] && isTooFar(net.steps[place[j]], i, j)) {
                        clashes[i] |= 1 << j;
                    }
                }
            }
        }

        private boolean isTooFar(int roads, int i, int j) {
            return roads == NONE || roads * minutesPerRoad > Math.abs(minute[i] - minute[j]);
        }

        boolean canAllBe(int set) {
            for (int i = 0; i < count; i++) {
                if ((set >> i & 1) != 0 && (clashes[i] & set) != 0) {
                    return false;
                }
            }
            return true;
        }

        int greatestSet() {
            return greater(count, 0, (1 << count) - 1, 0, clashes);
        }

        /**
         * The greatest set of those chosen and of the free ones below k, or the best if none is greater.
         * The highest is left out first, so that of like sets the least is met first.
         */
        private static int greater(int k, int chosen, int free, int best, int[] clashes) {
            if (Integer.bitCount(chosen) + Integer.bitCount(free) <= Integer.bitCount(best)) {
                return best;
            }
            if (k <= 0 || k > clashes.length) {
                return chosen;
            }
            int bit = 1 << k - 1;
            if ((free & bit) == 0) {
                return greater(k - 1, chosen, free, best, clashes);
            }
            int without = greater(k - 1, chosen, free & ~bit, best, clashes);
            return greater(k - 1, chosen | bit, free & ~bit & ~clashes[k - 1], without, clashes);
        }
    }
}
