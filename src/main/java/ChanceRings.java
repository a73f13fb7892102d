import java.util.NoSuchElementException;

/**
 * Games of two players and chance on networks, with exact worths, best plans, improvement of plans, rings,
 * proofs and plays by draws. The document's words (node, way, worth, left, held ..) are used as it defines them.
 */
public final class ChanceRings {
    public static final int NONE = -1;

    private static final int END = 0;
    private static final int MAX = 1;
    private static final int MIN = 2;
    private static final int CHANCE = 3;

    private static final int MOST_NODES = 12;
    private static final int MOST_INNER = 8;
    private static final int MOST_CHANCE = 5;
    private static final int MOST_ENDS = 4;
    private static final int MOST_WAYS = 3;
    private static final int MOST_WEIGHT = 3;
    private static final int MOST_TOGETHER = 4;
    private static final int MOST_PAY = 9;

    private static final int TAPE_BYTES = 440;
    private static final int FED_BYTES = 20;
    private static final int GAME_BYTES = 400;
    private static final int FAULT_BASE = -1000;
    private static final int TEXT_BYTES = 700;
    private static final int NOT_TOLD = -2;
    private static final int MOST_TOLD = 127;

    private static final int IMAGES = 2;
    private static final int MOST_STEPS = 8;
    private static final int LEAST_STOP = 2;
    private static final int MOST_STOP = 5;
    private static final int MOST_WITHIN = 8;
    private static final int MOST_MOVES = 60;
    private static final int MOST_PLAYS = 30;

    private static final int LETTERS = 27;
    private static final int HIGHEST_LETTER = 27 * 27 * 27 * 27 * 27;
    private static final int WORD_LETTERS = 6;

    /** No plan comes twice while plans are bettered, and a player has at most 3 to the 8th of them. */
    private static final int MOST_PLANS = 6561;

    private final Tape tape;
    private final Net net;
    private final Net draft;
    private final Net[] images;
    private final boolean[] kept;
    private final Reader reader;
    private final Steps steps;
    private final Telling telling;
    private final Regions regions;
    private final Solver solver;
    private final Outcome outcome;
    private final int[] tried;
    private final Values left;
    private boolean leftKnown;
    private final int[] stoppedWays;
    private final Values stoppedWorth;
    private int stoppedBy;
    private final Values withinWorth;

    public ChanceRings() {
        tape = new Tape();
        net = new Net();
        draft = new Net();
        images = new Net[] {new Net(), new Net()};
        kept = new boolean[IMAGES];
        reader = new Reader(tape, draft);
        steps = new Steps();
        telling = new Telling();
        regions = new Regions(net);
        solver = new Solver(net);
        outcome = new Outcome(net, solver);
        tried = new int[MOST_NODES];
        left = new Values();
        stoppedWays = new int[MOST_NODES];
        stoppedWorth = new Values();
        withinWorth = new Values();
    }

    // ---------------------------------------------------------------- the tape and the game

    public int feed(int a, int b, int c, int d, int e) {
        if (tape.length + FED_BYTES > TAPE_BYTES) {
            return NONE;
        }
        tape.append(a);
        tape.append(b);
        tape.append(c);
        tape.append(d);
        tape.append(e);
        return tape.length;
    }

    public boolean end(int n) {
        if (n < 0 || n > tape.length) {
            return false;
        }
        tape.length = n;
        return true;
    }

    public int game() {
        reader.read();
        tape.length = 0;
        if (reader.faultKind != 0) {
            return FAULT_BASE - reader.faultPlace;
        }
        net.copyFrom(draft);
        steps.count = 0;
        renew();
        return net.nodes;
    }

    public int fault() {
        return reader.faultKind;
    }

    public int node(int p, int what) throws NoSuchElementException {
        if (!net.has(p) || what < 0 || what > 3) {
            throw new NoSuchElementException();
        }
        switch (what) {
            case 0:
                return net.kind[p];
            case 1:
                return net.kind[p] == END ? net.pay[p] : NONE;
            case 2:
                return net.ways[p];
            default:
                return net.held[p];
        }
    }

    public int way(int p, int i, int what) throws NoSuchElementException {
        if (!net.hasWay(p, i) || what < 0 || what > 1) {
            throw new NoSuchElementException();
        }
        return what == 0 ? net.target(p, i) : net.weight(p, i);
    }

    // ---------------------------------------------------------------- worth and plans

    public long worth(int p, int what) throws NoSuchElementException {
        if (!net.has(p) || what < 0 || what > 1) {
            throw new NoSuchElementException();
        }
        outcome.settle();
        return outcome.worth.term(p, what);
    }

    public int best(int p) {
        if (!net.isChooser(p)) {
            return NONE;
        }
        outcome.settle();
        return outcome.plan[p];
    }

    public int good(int p) {
        if (!net.isChooser(p)) {
            return NONE;
        }
        outcome.settle();
        return solver.goodWays(p, outcome.worth);
    }

    public int tried(int p) {
        return net.has(p) && net.kind[p] == MAX ? tried[p] : NONE;
    }

    public long left(int p, int what) throws NoSuchElementException {
        if (!net.has(p) || what < 0 || what > 1) {
            throw new NoSuchElementException();
        }
        knowLeft();
        return left.term(p, what);
    }

    public int improve() {
        knowLeft();
        int turned = solver.turn(MAX, tried, left);
        if (turned > 0) {
            leftKnown = false;
        }
        return turned;
    }

    public int improveAll() {
        int rounds = 0;
        boolean turned = true;
        for (int r = 0; turned && r < MOST_PLANS; r++) {
            turned = improve() > 0;
            if (turned) {
                rounds++;
            }
        }
        return rounds;
    }

    // ---------------------------------------------------------------- changes of the game

    public int hold(int p, int i) {
        if (!net.isChooser(p) || !net.hasWay(p, i)) {
            return NONE;
        }
        if (net.held[p] == i) {
            return 1;
        }
        steps.add(Steps.HELD, p, 0, net.held[p]);
        net.held[p] = i;
        renew();
        return 0;
    }

    public int free(int p) {
        if (!net.has(p)) {
            return NONE;
        }
        if (net.held[p] == NONE) {
            return 1;
        }
        steps.add(Steps.HELD, p, 0, net.held[p]);
        net.held[p] = NONE;
        renew();
        return 0;
    }

    public int weigh(int p, int i, int w) {
        if (!net.hasWay(p, i) || net.kind[p] != CHANCE || w < 1 || w > MOST_WEIGHT) {
            return NONE;
        }
        int before = net.weight(p, i);
        if (before == w) {
            return 1;
        }
        if (net.together(p) - before + w > MOST_TOGETHER) {
            return 2;
        }
        steps.add(Steps.WEIGHT, p, i, before);
        net.setWeight(p, i, w);
        renew();
        return 0;
    }

    public int pay(int p, int n) {
        if (!net.has(p) || net.kind[p] != END || n < 0 || n > MOST_PAY) {
            return NONE;
        }
        if (net.pay[p] == n) {
            return 1;
        }
        steps.add(Steps.PAY, p, 0, net.pay[p]);
        net.pay[p] = n;
        renew();
        return 0;
    }

    // ---------------------------------------------------------------- other worths

    public long stopped(int p, int q, int what) throws NoSuchElementException {
        if (!net.has(p) || q < LEAST_STOP || q > MOST_STOP || what < 0 || what > 1) {
            throw new NoSuchElementException();
        }
        if (stoppedBy != q) {
            solver.firstWays(stoppedWays);
            solver.findWorth(stoppedWays, q - 1, q, stoppedWorth);
            stoppedBy = q;
        }
        return stoppedWorth.term(p, what);
    }

    public long within(int p, int k, int what) throws NoSuchElementException {
        if (!net.has(p) || k < 0 || k > MOST_WITHIN || what < 0 || what > 1) {
            throw new NoSuchElementException();
        }
        solver.findWithin(k, withinWorth);
        return withinWorth.term(p, what);
    }

    // ---------------------------------------------------------------- sets, rings, lengths, ranks

    public int forced(int who, int set) {
        if (who != MAX && who != MIN || set < 0 || set >= 1 << net.nodes) {
            return NONE;
        }
        return regions.forcedInto(who, set);
    }

    public int rings() {
        outcome.settle();
        return outcome.ringCount;
    }

    public int ring(int i) {
        outcome.settle();
        return i >= 0 && i < outcome.ringCount ? outcome.ringBits[i] : NONE;
    }

    public long moves(int p, int what) throws NoSuchElementException {
        if (!net.has(p) || what < 0 || what > 1) {
            throw new NoSuchElementException();
        }
        outcome.settle();
        if (outcome.comesToRing(p)) {
            throw new NoSuchElementException();
        }
        return outcome.length.term(p, what);
    }

    public int sets(int what, int p) {
        switch (what) {
            case 0:
                outcome.settle();
                return outcome.worthless();
            case 1:
                return regions.surelyPaid();
            case 2:
                return net.has(p) ? regions.movesToPay(p) : NONE;
            default:
                return NONE;
        }
    }

    public int rank(int i) {
        if (!net.has(i)) {
            return NONE;
        }
        outcome.settle();
        return outcome.ranked(i);
    }

    // ---------------------------------------------------------------- numbers that prove

    public int above() {
        int answer = tape.tellsFractions(net.nodes) ? firstUnproved() : NOT_TOLD;
        tape.length = 0;
        return answer;
    }

    public int below() {
        int answer = tape.tellsFractions(net.nodes) ? firstWithLess() : NOT_TOLD;
        tape.length = 0;
        return answer;
    }

    // ---------------------------------------------------------------- plays by draws

    public int play(int p, int seed, int n) {
        if (!net.has(p) || n < 0 || n > MOST_MOVES) {
            return NONE;
        }
        outcome.settle();
        return outcome.walk(p, seed, n);
    }

    public int often(int p, int seed, int n, int what) {
        if (!net.has(p) || n < 1 || n > MOST_PLAYS || what < 0 || what > 1) {
            return NONE;
        }
        outcome.settle();
        int sum = 0;
        for (int k = 0; k < n; k++) {
            int last = outcome.walk(p, seed + k, MOST_MOVES);
            if (net.kind[last] == END) {
                sum += what == 0 ? net.pay[last] : 1;
            }
        }
        return sum;
    }

    // ---------------------------------------------------------------- texts, undoing, images, counts

    public int text() {
        telling.tell(net, reader);
        return telling.length;
    }

    public int byteAt(int i) {
        return i >= 0 && i < telling.length ? telling.bytes[i] : NONE;
    }

    public int undo() {
        if (steps.count == 0) {
            return NONE;
        }
        steps.takeBack(net);
        renew();
        return steps.count;
    }

    public boolean image(int k) {
        if (k < 0 || k >= IMAGES) {
            return false;
        }
        images[k].copyFrom(net);
        kept[k] = true;
        return true;
    }

    public boolean restore(int k) {
        if (k < 0 || k >= IMAGES || !kept[k]) {
            return false;
        }
        net.copyFrom(images[k]);
        steps.count = 0;
        renew();
        return true;
    }

    public int count(int what) {
        switch (what) {
            case 0:
                return net.nodes;
            case 1:
                return net.countOf(MAX);
            case 2:
                return net.countOf(MIN);
            case 3:
                return net.countOf(CHANCE);
            case 4:
                return net.countOf(END);
            case 5:
                return net.countWays();
            case 6:
                return net.heldNodes();
            case 7:
                return tape.length;
            default:
                return NONE;
        }
    }

    // ---------------------------------------------------------------- private parts

    /** Behind each change: what was found of the game before holds no more, and the plan is tried anew. */
    private void renew() {
        outcome.settled = false;
        leftKnown = false;
        stoppedBy = 0;
        solver.firstWays(tried);
    }

    private void knowLeft() {
        if (!leftKnown) {
            solver.findLeft(tried, 1, 1, left);
            leftKnown = true;
        }
    }

    private int firstUnproved() {
        for (int p = 0; p < net.nodes; p++) {
            if (!isProved(p)) {
                return p;
            }
        }
        return NONE;
    }

    private boolean isProved(int p) {
        switch (net.kind[p]) {
            case END:
                return tape.numerator(p) >= net.pay[p] * tape.denominator(p);
            case MAX:
                return countCovered(p) == net.countTakable(p);
            case MIN:
                return countCovered(p) > 0;
            default:
                return coversMean(p);
        }
    }

    /** How many of the ways that can be taken lead to a node whose fraction is no larger than that of p. */
    private int countCovered(int p) {
        int covered = 0;
        for (int i = 0; i < net.ways[p]; i++) {
            int q = net.target(p, i);
            boolean covers = tape.numerator(p) * tape.denominator(q) >= tape.numerator(q) * tape.denominator(p);
            if (net.canTake(p, i) && covers) {
                covered++;
            }
        }
        return covered;
    }

    private boolean coversMean(int p) {
        long sum = 0;
        long under = 1;
        for (int i = 0; i < net.ways[p]; i++) {
            int q = net.target(p, i);
            sum = sum * tape.denominator(q) + under * net.weight(p, i) * tape.numerator(q);
            under *= tape.denominator(q);
        }
        return tape.numerator(p) * under * net.together(p) >= sum * tape.denominator(p);
    }

    private int firstWithLess() {
        knowLeft();
        for (int p = 0; p < net.nodes; p++) {
            if (left.part[p] * tape.denominator(p) < left.whole * tape.numerator(p)) {
                return p;
            }
        }
        return NONE;
    }

    /** A word as a number to the base 27, so that names are compared and kept as ints; no letter is 0. */
    private static int pack(String word) {
        int packed = 0;
        for (int i = 0; i < word.length() && i < WORD_LETTERS; i++) {
            packed = packed * LETTERS + (word.charAt(i) - 'a' + 1);
        }
        return packed;
    }

    // ---------------------------------------------------------------- classes inside

    /** Bytes that were fed and not yet used. */
    private static final class Tape {
        final int[] bytes = new int[TAPE_BYTES];
        int length;

        void append(int number) {
            for (int shift = 24; shift >= 0; shift -= 8) {
                if (length < TAPE_BYTES) {
                    bytes[length] = (number >>> shift) & 255;
                    length++;
                }
            }
        }

        boolean tellsFractions(int nodes) {
            if (length != 2 * nodes) {
                return false;
            }
            for (int p = 0; p < nodes; p++) {
                if (bytes[2 * p] > MOST_TOLD || bytes[2 * p + 1] > MOST_TOLD || bytes[2 * p + 1] < 1) {
                    return false;
                }
            }
            return true;
        }

        long numerator(int p) {
            return bytes[2 * p];
        }

        long denominator(int p) {
            return bytes[2 * p + 1];
        }
    }

    /** The network: its nodes, their ways, and which ways are held. */
    private static final class Net {
        int nodes;
        final int[] kind = new int[MOST_NODES];
        final int[] pay = new int[MOST_NODES];
        final int[] name = new int[MOST_NODES];
        final int[] ways = new int[MOST_NODES];
        final int[] held = new int[MOST_NODES];
        final int[] targets = new int[MOST_NODES * MOST_WAYS];
        final int[] weights = new int[MOST_NODES * MOST_WAYS];

        void copyFrom(Net other) {
            nodes = other.nodes;
            System.arraycopy(other.kind, 0, kind, 0, MOST_NODES);
            System.arraycopy(other.pay, 0, pay, 0, MOST_NODES);
            System.arraycopy(other.name, 0, name, 0, MOST_NODES);
            System.arraycopy(other.ways, 0, ways, 0, MOST_NODES);
            System.arraycopy(other.held, 0, held, 0, MOST_NODES);
            System.arraycopy(other.targets, 0, targets, 0, MOST_NODES * MOST_WAYS);
            System.arraycopy(other.weights, 0, weights, 0, MOST_NODES * MOST_WAYS);
        }

        void addNode(int itsKind, int itsName, int itsPay) {
            if (nodes < MOST_NODES) {
                kind[nodes] = itsKind;
                name[nodes] = itsName;
                pay[nodes] = itsPay;
                ways[nodes] = 0;
                held[nodes] = NONE;
                nodes++;
            }
        }

        void addWay(int p, int q, int itsWeight) {
            if (ways[p] < MOST_WAYS) {
                targets[p * MOST_WAYS + ways[p]] = q;
                weights[p * MOST_WAYS + ways[p]] = itsWeight;
                ways[p]++;
            }
        }

        boolean has(int p) {
            return p >= 0 && p < nodes;
        }

        boolean hasWay(int p, int i) {
            return has(p) && i >= 0 && i < ways[p];
        }

        boolean isChooser(int p) {
            return has(p) && (kind[p] == MAX || kind[p] == MIN);
        }

        boolean canTake(int p, int i) {
            return held[p] == NONE || held[p] == i;
        }

        int target(int p, int i) {
            return targets[p * MOST_WAYS + i];
        }

        int weight(int p, int i) {
            return weights[p * MOST_WAYS + i];
        }

        void setWeight(int p, int i, int w) {
            weights[p * MOST_WAYS + i] = w;
        }

        /** All weights of a chance node; at any other one way is taken, and that counts 1. */
        int together(int p) {
            if (kind[p] != CHANCE) {
                return 1;
            }
            int sum = 0;
            for (int i = 0; i < ways[p]; i++) {
                sum += weights[p * MOST_WAYS + i];
            }
            return sum;
        }

        /** The nodes (bits) to which ways lead that can be taken. */
        int nextNodes(int p) {
            int bits = 0;
            for (int i = 0; i < ways[p]; i++) {
                if (canTake(p, i)) {
                    bits |= 1 << target(p, i);
                }
            }
            return bits;
        }

        int payingEnds() {
            int bits = 0;
            for (int p = 0; p < nodes; p++) {
                if (kind[p] == END && pay[p] > 0) {
                    bits |= 1 << p;
                }
            }
            return bits;
        }

        int find(int wanted) {
            for (int p = 0; p < nodes; p++) {
                if (name[p] == wanted) {
                    return p;
                }
            }
            return NONE;
        }

        int countOf(int wanted) {
            int found = 0;
            for (int p = 0; p < nodes; p++) {
                if (kind[p] == wanted) {
                    found++;
                }
            }
            return found;
        }

        int countWays() {
            int sum = 0;
            for (int p = 0; p < nodes; p++) {
                sum += ways[p];
            }
            return sum;
        }

        int countTakable(int p) {
            return held[p] == NONE ? ways[p] : 1;
        }

        int heldNodes() {
            int bits = 0;
            for (int p = 0; p < nodes; p++) {
                if (held[p] != NONE) {
                    bits |= 1 << p;
                }
            }
            return bits;
        }
    }

    /** Reads the tape as a game, token by token, up to the first fault. */
    private static final class Reader {
        private static final int TEXT_END = 0;
        private static final int WORD = 1;
        private static final int NUMBER = 2;
        private static final int CLOSE = 3;
        private static final int OTHER = 4;
        private static final int NUMBER_DIGITS = 2;

        final Tape tape;
        final Net net;
        final int[] kindWords;
        final int wayWord;
        int faultKind;
        int faultPlace;
        int next;
        int token;
        int tokenPlace;
        int tokenValue;

        Reader(Tape tape, Net net) {
            this.tape = tape;
            this.net = net;
            kindWords = new int[] {pack("end"), pack("max"), pack("min"), pack("chance")};
            wayWord = pack("way");
        }

        void read() {
            faultKind = 0;
            faultPlace = 0;
            net.nodes = 0;
            if (tape.length > GAME_BYTES) {
                failAt(1, GAME_BYTES);
                return;
            }
            next = 0;
            advance();
            for (int line = 0; line <= GAME_BYTES && token != TEXT_END && faultKind == 0; line++) {
                readLine();
            }
            if (faultKind == 0 && lacksWay()) {
                failAt(5, tape.length);
            }
        }

        private void fail(int kind) {
            failAt(kind, tokenPlace);
        }

        private void failAt(int kind, int place) {
            faultKind = kind;
            faultPlace = place;
        }

        private boolean lacksWay() {
            for (int p = 0; p < net.nodes; p++) {
                if (net.kind[p] != END && net.ways[p] == 0) {
                    return true;
                }
            }
            return false;
        }

        private void readLine() {
            int kind = token == WORD ? kindOf(tokenValue) : NONE;
            if (kind != NONE) {
                readNode(kind);
            } else if (token == WORD && tokenValue == wayWord) {
                int from = readStart();
                if (from != NONE) {
                    readTarget(from);
                }
            } else {
                fail(1);
            }
            if (faultKind == 0 && token != CLOSE) {
                fail(1);
            }
            if (faultKind == 0) {
                advance();
            }
        }

        private int kindOf(int word) {
            for (int kind = END; kind <= CHANCE; kind++) {
                if (kindWords[kind] == word) {
                    return kind;
                }
            }
            return NONE;
        }

        private boolean isFull(int kind) {
            int ends = net.countOf(END);
            if (kind == END) {
                return ends >= MOST_ENDS;
            }
            return net.nodes - ends >= MOST_INNER || kind == CHANCE && net.countOf(CHANCE) >= MOST_CHANCE;
        }

        private boolean isName() {
            return token == WORD && tokenValue != wayWord && kindOf(tokenValue) == NONE;
        }

        private void readNode(int kind) {
            if (isFull(kind)) {
                fail(4);
                return;
            }
            advance();
            int name = tokenValue;
            if (!isName()) {
                fail(1);
            } else if (net.find(name) != NONE) {
                fail(3);
            } else {
                advance();
                // with a fault the draft is never used, so it may hold what is not as told
                net.addNode(kind, name, kind == END ? tokenValue : 0);
                if (kind == END && isPay()) {
                    advance();
                }
            }
        }

        private boolean isPay() {
            if (token != NUMBER) {
                fail(1);
            } else if (tokenValue > MOST_PAY) {
                fail(2);
            }
            return faultKind == 0;
        }

        /** The node that a way starts from; NONE with a fault. */
        private int readStart() {
            advance();
            int from = isName() ? net.find(tokenValue) : NONE;
            if (!isName()) {
                fail(1);
            } else if (from == NONE || net.kind[from] == END) {
                fail(3);
            } else if (net.ways[from] >= MOST_WAYS) {
                fail(4);
            }
            return faultKind == 0 ? from : NONE;
        }

        private void readTarget(int from) {
            advance();
            if (!isName()) {
                fail(1);
                return;
            }
            int to = net.find(tokenValue);
            int place = tokenPlace;
            advance();
            boolean weighed = token == NUMBER;
            // without a weight both 2 and 3 can stand at the second name, where the least kind is told
            if (!weighed && net.kind[from] == CHANCE && net.together(from) + 1 > MOST_TOGETHER) {
                failAt(2, place);
            } else if (to == NONE) {
                failAt(3, place);
            } else {
                int weight = weighed ? tokenValue : 1;
                if (weighed && isWeightFor(from)) {
                    advance();
                }
                net.addWay(from, to, weight);
            }
        }

        private boolean isWeightFor(int from) {
            if (net.kind[from] != CHANCE) {
                fail(1);
            } else if (tokenValue < 1 || tokenValue > MOST_WEIGHT) {
                fail(2);
            } else if (net.together(from) + tokenValue > MOST_TOGETHER) {
                fail(2);
            }
            return faultKind == 0;
        }

        /** Goes on to the next token: its sort, its place, and what it tells (a packed word, a number). */
        private void advance() {
            while (next < tape.length && tape.bytes[next] == ' ') {
                next++;
            }
            tokenPlace = next;
            tokenValue = 0;
            if (next >= tape.length) {
                token = TEXT_END;
            } else if (tape.bytes[next] == ';') {
                token = CLOSE;
                next++;
            } else if (isLetter(tape.bytes[next]) || isDigit(tape.bytes[next])) {
                takeRun();
            } else {
                token = OTHER;
            }
        }

        private void takeRun() {
            int letters = 0;
            int digits = 0;
            while (next < tape.length && (isLetter(tape.bytes[next]) || isDigit(tape.bytes[next]))) {
                int sign = tape.bytes[next];
                if (isLetter(sign)) {
                    letters++;
                    tokenValue = tokenValue * LETTERS + (sign - 'a' + 1);
                } else {
                    digits++;
                    tokenValue = tokenValue * 10 + (sign - '0');
                }
                next++;
            }
            if (digits == 0 && letters <= WORD_LETTERS) {
                token = WORD;
            } else if (letters == 0 && digits <= NUMBER_DIGITS) {
                token = NUMBER;
            } else {
                token = OTHER;
            }
        }

        private static boolean isLetter(int sign) {
            return sign >= 'a' && sign <= 'z';
        }

        private static boolean isDigit(int sign) {
            return sign >= '0' && sign <= '9';
        }
    }

    /** The latest changes, each with what stood there before it. */
    private static final class Steps {
        static final int HELD = 0;
        static final int WEIGHT = 1;
        static final int PAY = 2;

        final int[] what = new int[MOST_STEPS];
        final int[] node = new int[MOST_STEPS];
        final int[] index = new int[MOST_STEPS];
        final int[] before = new int[MOST_STEPS];
        int count;

        void add(int itsWhat, int p, int i, int itsBefore) {
            if (count >= MOST_STEPS) {
                forgetOldest();
            }
            what[count] = itsWhat;
            node[count] = p;
            index[count] = i;
            before[count] = itsBefore;
            count++;
        }

        private void forgetOldest() {
            count = MOST_STEPS - 1;
            System.arraycopy(what, 1, what, 0, count);
            System.arraycopy(node, 1, node, 0, count);
            System.arraycopy(index, 1, index, 0, count);
            System.arraycopy(before, 1, before, 0, count);
        }

        void takeBack(Net net) {
            if (count <= 0) {
                return;
            }
            count--;
            int p = node[count];
            switch (what[count]) {
                case HELD:
                    net.held[p] = before[count];
                    break;
                case WEIGHT:
                    net.setWeight(p, index[count], before[count]);
                    break;
                default:
                    net.pay[p] = before[count];
                    break;
            }
        }
    }

    /** The game told back as a text. */
    private static final class Telling {
        final int[] bytes = new int[TEXT_BYTES];
        int length;

        void tell(Net net, Reader reader) {
            length = 0;
            for (int p = 0; p < net.nodes; p++) {
                putWord(reader.kindWords[net.kind[p]]);
                putSpaced(net.name[p]);
                if (net.kind[p] == END) {
                    putDigit(net.pay[p]);
                }
                put(';');
            }
            for (int p = 0; p < net.nodes; p++) {
                for (int i = 0; i < net.ways[p]; i++) {
                    putWord(reader.wayWord);
                    putSpaced(net.name[p]);
                    putSpaced(net.name[net.target(p, i)]);
                    if (net.kind[p] == CHANCE) {
                        putDigit(net.weight(p, i));
                    }
                    put(';');
                }
            }
        }

        private void put(int sign) {
            if (length < TEXT_BYTES) {
                bytes[length] = sign;
                length++;
            }
        }

        private void putDigit(int digit) {
            put(' ');
            put('0' + digit);
        }

        private void putSpaced(int word) {
            put(' ');
            putWord(word);
        }

        private void putWord(int word) {
            for (int unit = HIGHEST_LETTER; unit > 0; unit /= LETTERS) {
                int letter = word / unit % LETTERS;
                if (letter > 0) {
                    put('a' + letter - 1);
                }
            }
        }
    }

    /** A fraction for each node, all over one whole, so that two of them compare by their parts alone. */
    private static final class Values {
        final long[] part = new long[MOST_NODES];
        long whole = 1;

        long term(int p, int what) {
            long common = commonDivisor(part[p], whole);
            if (common < 1) {
                return 0;
            }
            return (what == 0 ? part[p] : whole) / common;
        }

        private static long commonDivisor(long a, long b) {
            long x = a;
            long y = b;
            // Euclid's steps on two longs are never more than 92
            for (int k = 0; k < 100 && y != 0; k++) {
                long rest = x % y;
                x = y;
                y = rest;
            }
            return x;
        }
    }

    /** Linear equations with whole numbers, solved without fractions on the way. */
    private static final class Equations {
        final long[][] rows = new long[MOST_INNER][MOST_INNER];
        final long[] right = new long[MOST_INNER];
        long whole;

        void clear() {
            for (int i = 0; i < MOST_INNER; i++) {
                right[i] = 0;
                for (int j = 0; j < MOST_INNER; j++) {
                    rows[i][j] = 0;
                }
            }
        }

        /**
         * Behind this, unknown i is right[i] by whole. Each division is exact (Bareiss): all numbers are minors.
         * Where every play leaves the unknown nodes, pivots are above 0 and at most the product of the diagonal
         * (20 five times, 5 three times), and a right side at most 9 times that: longs hold their products.
         */
        void solve(int size) {
            whole = 1;
            for (int k = 0; k < size && k < MOST_INNER; k++) {
                long pivot = rows[k][k];
                for (int i = 0; i < size; i++) {
                    if (i != k) {
                        eliminate(i, k, size);
                    }
                }
                whole = pivot;
            }
        }

        private void eliminate(int i, int k, int size) {
            long divisor = whole;
            if (divisor == 0) {
                return;
            }
            long pivot = rows[k][k];
            long factor = rows[i][k];
            for (int j = k + 1; j < size; j++) {
                rows[i][j] = (pivot * rows[i][j] - factor * rows[k][j]) / divisor;
            }
            right[i] = (pivot * right[i] - factor * right[k]) / divisor;
        }
    }

    /** What play by one way for each chooser brings, and how long it takes. */
    private static final class Course {
        final Net net;
        final Equations equations = new Equations();
        final int[] place = new int[MOST_NODES];

        Course(Net net) {
            this.net = net;
        }

        /** How often play by these ways goes way i of p, of together(p) times. */
        private int share(int[] plan, int p, int i) {
            if (net.kind[p] == CHANCE) {
                return net.weights[p * MOST_WAYS + i];
            }
            return plan[p] == i ? 1 : 0;
        }

        int follow(int[] plan, int p) {
            int bits = 0;
            for (int i = 0; i < net.ways[p]; i++) {
                if (share(plan, p, i) > 0) {
                    bits |= 1 << net.target(p, i);
                }
            }
            return bits;
        }

        /** The pay expected; in each move play goes on in on of outOf cases. Nodes that are not open bring 0. */
        void expectPay(int[] plan, int open, int on, int outOf, Values out) {
            int size = lay(plan, open, on, outOf);
            for (int p = 0; p < net.nodes; p++) {
                if (place[p] != NONE) {
                    equations.right[place[p]] = (long) on * paidNext(plan, p);
                }
            }
            finish(size, out);
            for (int p = 0; p < net.nodes; p++) {
                if (net.kind[p] == END) {
                    out.part[p] = net.pay[p] * out.whole;
                }
            }
        }

        /** The moves expected to an end; all open nodes must be such that no ring can be come to from them. */
        void expectMoves(int[] plan, int open, Values out) {
            int size = lay(plan, open, 1, 1);
            for (int p = 0; p < net.nodes; p++) {
                if (place[p] != NONE) {
                    equations.right[place[p]] = net.together(p);
                }
            }
            finish(size, out);
        }

        private long paidNext(int[] plan, int p) {
            long sum = 0;
            for (int i = 0; i < net.ways[p]; i++) {
                int q = net.target(p, i);
                if (net.kind[q] == END) {
                    sum += (long) share(plan, p, i) * net.pay[q];
                }
            }
            return sum;
        }

        /** An equation for each open node; answers how many there are. */
        private int lay(int[] plan, int open, int on, int outOf) {
            equations.clear();
            int size = placeOpen(open);
            for (int p = 0; p < net.nodes; p++) {
                int own = place[p];
                if (own != NONE) {
                    equations.rows[own][own] = (long) outOf * net.together(p);
                    for (int i = 0; i < net.ways[p]; i++) {
                        int column = place[net.target(p, i)];
                        if (column != NONE) {
                            equations.rows[own][column] -= (long) on * share(plan, p, i);
                        }
                    }
                }
            }
            return size;
        }

        private int placeOpen(int open) {
            int size = 0;
            for (int p = 0; p < net.nodes; p++) {
                place[p] = NONE;
                if ((open >> p & 1) != 0 && net.kind[p] != END && size < MOST_INNER) {
                    place[p] = size;
                    size++;
                }
            }
            return size;
        }

        private void finish(int size, Values out) {
            equations.solve(size);
            out.whole = equations.whole;
            for (int p = 0; p < net.nodes; p++) {
                out.part[p] = place[p] == NONE ? 0 : equations.right[place[p]];
            }
        }
    }

    /** Finds left, worth and the best ways of both players. */
    private static final class Solver {
        /** 1, 2, 3 and 4, all that weights can be together, go into it. */
        private static final int UNIT = 12;

        final Net net;
        final Course course;
        final int[] keep = new int[MOST_NODES];
        final long[] scaled = new long[MOST_NODES];

        Solver(Net net) {
            this.net = net;
            course = new Course(net);
        }

        void firstWays(int[] plan) {
            for (int p = 0; p < net.nodes; p++) {
                plan[p] = net.held[p] == NONE ? 0 : net.held[p];
            }
        }

        /** Left by the ways of MAX in the plan; the ways of MIN in it become its best answer. */
        void findLeft(int[] plan, int on, int outOf, Values out) {
            int open = unavoidable(plan);
            boolean turned = true;
            for (int r = 0; turned && r < MOST_PLANS; r++) {
                course.expectPay(plan, open, on, outOf, out);
                turned = turnOpen(MIN, plan, out, open) > 0;
            }
        }

        /** Bettered till nothing betters it, a plan leaves worth: then no node gains by any way, for either player. */
        void findWorth(int[] plan, int on, int outOf, Values out) {
            boolean turned = true;
            for (int r = 0; turned && r < MOST_PLANS; r++) {
                findLeft(plan, on, outOf, out);
                turned = turn(MAX, plan, out) > 0;
            }
        }

        int turn(int kind, int[] plan, Values values) {
            return turnOpen(kind, plan, values, -1);
        }

        /** Open nodes of a kind take the first of their best ways where it betters the one they have. */
        private int turnOpen(int kind, int[] plan, Values values, int open) {
            int turned = 0;
            for (int p = 0; p < net.nodes; p++) {
                if (net.kind[p] == kind && net.held[p] == NONE && (open >> p & 1) != 0) {
                    int chosen = betterWay(p, plan[p], values);
                    if (chosen != plan[p]) {
                        plan[p] = chosen;
                        turned++;
                    }
                }
            }
            return turned;
        }

        private int betterWay(int p, int now, Values values) {
            int sign = net.kind[p] == MAX ? 1 : -1;
            int chosen = now;
            for (int i = 0; i < net.ways[p]; i++) {
                long gain = values.part[net.target(p, i)] - values.part[net.target(p, chosen)];
                if (sign * gain > 0) {
                    chosen = i;
                }
            }
            return chosen;
        }

        /**
         * Nodes with left above 0: those from which MIN can't keep play off all ends that pay. Among these lies no
         * ring, whatever MIN does (it would bring 0), so that its ways can be bettered from any of its plans.
         */
        private int unavoidable(int[] plan) {
            int bits = net.payingEnds();
            int before = NONE;
            for (int r = 0; r < MOST_NODES && bits != before; r++) {
                before = bits;
                for (int p = 0; p < net.nodes; p++) {
                    int after = net.kind[p] == MIN ? net.nextNodes(p) : course.follow(plan, p);
                    boolean all = net.kind[p] == MIN;
                    if (net.kind[p] != END && (all ? (after & ~bits) == 0 : (after & bits) != 0)) {
                        bits |= 1 << p;
                    }
                }
            }
            return bits;
        }

        /** Worth in at most k moves, by parts of 12 to the k-th. */
        void findWithin(int k, Values out) {
            out.whole = 1;
            for (int p = 0; p < net.nodes; p++) {
                out.part[p] = net.kind[p] == END ? net.pay[p] : 0;
            }
            for (int m = 0; m < k; m++) {
                for (int p = 0; p < net.nodes; p++) {
                    scaled[p] = oneMoveMore(p, out);
                }
                System.arraycopy(scaled, 0, out.part, 0, MOST_NODES);
                out.whole *= UNIT;
            }
        }

        private long oneMoveMore(int p, Values values) {
            if (net.kind[p] == END) {
                return UNIT * values.part[p];
            }
            if (net.kind[p] != CHANCE) {
                int first = net.held[p] == NONE ? 0 : net.held[p];
                int chosen = net.held[p] == NONE ? betterWay(p, first, values) : first;
                return UNIT * values.part[net.target(p, chosen)];
            }
            long sum = 0;
            for (int i = 0; i < net.ways[p]; i++) {
                sum += net.weight(p, i) * values.part[net.target(p, i)];
            }
            int together = net.together(p);
            return together == 0 ? 0 : UNIT / together * sum;
        }

        /** The first best plans of both, by worth. */
        void findBest(Values worth, int[] plan) {
            keepEven(worth);
            for (int p = 0; p < net.nodes; p++) {
                if (net.kind[p] == MIN) {
                    plan[p] = lowest(keep[p]);
                } else if (net.kind[p] == MAX) {
                    plan[p] = lowest(goodOf(p, worth));
                    keep[p] = 1 << plan[p];
                }
            }
        }

        int goodWays(int p, Values worth) {
            keepEven(worth);
            return goodOf(p, worth);
        }

        private static int lowest(int bits) {
            for (int i = 0; i < MOST_WAYS; i++) {
                if ((bits >> i & 1) != 0) {
                    return i;
                }
            }
            return 0;
        }

        /** Keeps the ways that can be taken and lead to a node of the same worth. */
        private void keepEven(Values worth) {
            for (int p = 0; p < net.nodes; p++) {
                keep[p] = 0;
                for (int i = 0; i < net.ways[p]; i++) {
                    if (net.canTake(p, i) && worth.part[net.target(p, i)] == worth.part[p]) {
                        keep[p] |= 1 << i;
                    }
                }
            }
        }

        /** Ways of p, of those that are kept, that can be part of a best plan with the others that are kept. */
        private int goodOf(int p, Values worth) {
            int before = keep[p];
            // MIN loses nothing by ways of even worth: if play goes round by them for ever, it pays 0
            if (net.kind[p] == MIN) {
                return before;
            }
            int bits = 0;
            for (int i = 0; i < net.ways[p]; i++) {
                keep[p] = before & 1 << i;
                if (keep[p] != 0 && bringsAll(worth)) {
                    bits |= 1 << i;
                }
            }
            keep[p] = before;
            return bits;
        }

        /**
         * Whether MAX, by ways that are kept, can bring play on from every node that is worth anything: to an end
         * or to another worth. If it can, play stays at no worth above 0 for ever, and MAX has all of it; if it
         * can't, MIN keeps play going round somewhere, and that pays nothing.
         */
        private boolean bringsAll(Values worth) {
            int brought = net.payingEnds();
            int before = NONE;
            for (int r = 0; r < MOST_NODES && brought != before; r++) {
                before = brought;
                for (int p = 0; p < net.nodes; p++) {
                    if (worth.part[p] > 0 && isBrought(p, brought, worth)) {
                        brought |= 1 << p;
                    }
                }
            }
            for (int p = 0; p < net.nodes; p++) {
                if (worth.part[p] > 0 && (brought >> p & 1) == 0) {
                    return false;
                }
            }
            return true;
        }

        private boolean isBrought(int p, int brought, Values worth) {
            boolean some = false;
            boolean all = true;
            for (int i = 0; i < net.ways[p]; i++) {
                int q = net.target(p, i);
                boolean in = (brought >> q & 1) != 0;
                if (net.kind[p] == CHANCE) {
                    some |= in || worth.part[q] != worth.part[p];
                } else if ((keep[p] >> i & 1) != 0) {
                    some |= in;
                    all &= in;
                }
            }
            return net.kind[p] == MIN ? some && all : some;
        }
    }

    /** What is found of the game by both best plans; made anew behind each change, when it is first asked for. */
    private static final class Outcome {
        private static final int DRAW_FACTOR = 1103515245;
        private static final int DRAW_STEP = 12345;

        final Net net;
        final Solver solver;
        final int[] plan = new int[MOST_NODES];
        final Values worth = new Values();
        final Values length = new Values();
        final int[] reach = new int[MOST_NODES];
        final int[] ringBits = new int[MOST_NODES];
        int ringCount;
        int ringNodes;
        boolean settled;

        Outcome(Net net, Solver solver) {
            this.net = net;
            this.solver = solver;
        }

        void settle() {
            if (settled) {
                return;
            }
            solver.firstWays(plan);
            solver.findWorth(plan, 1, 1, worth);
            solver.findBest(worth, plan);
            findReach();
            findRings();
            int open = 0;
            for (int p = 0; p < net.nodes; p++) {
                if (!comesToRing(p)) {
                    open |= 1 << p;
                }
            }
            solver.course.expectMoves(plan, open, length);
            settled = true;
        }

        private void findReach() {
            for (int p = 0; p < net.nodes; p++) {
                reach[p] = 1 << p | solver.course.follow(plan, p);
            }
            for (int via = 0; via < net.nodes; via++) {
                for (int p = 0; p < net.nodes; p++) {
                    if ((reach[p] >> via & 1) != 0) {
                        reach[p] |= reach[via];
                    }
                }
            }
        }

        private void findRings() {
            ringCount = 0;
            ringNodes = 0;
            for (int p = 0; p < net.nodes; p++) {
                if ((ringNodes >> p & 1) == 0 && comesBack(p)) {
                    ringBits[ringCount] = reach[p];
                    ringNodes |= reach[p];
                    ringCount++;
                }
            }
        }

        private boolean comesBack(int p) {
            for (int q = 0; q < net.nodes; q++) {
                if ((reach[p] >> q & 1) != 0 && (reach[q] >> p & 1) == 0) {
                    return false;
                }
            }
            return net.kind[p] != END;
        }

        boolean comesToRing(int p) {
            return (reach[p] & ringNodes) != 0;
        }

        int worthless() {
            int bits = 0;
            for (int p = 0; p < net.nodes; p++) {
                if (worth.part[p] == 0) {
                    bits |= 1 << p;
                }
            }
            return bits;
        }

        int ranked(int i) {
            for (int p = 0; p < net.nodes; p++) {
                if (countAhead(p) == i) {
                    return p;
                }
            }
            return NONE;
        }

        private int countAhead(int p) {
            int ahead = 0;
            for (int q = 0; q < net.nodes; q++) {
                if (worth.part[q] > worth.part[p] || worth.part[q] == worth.part[p] && q < p) {
                    ahead++;
                }
            }
            return ahead;
        }

        int walk(int p, int seed, int n) {
            int at = p;
            int x = seed;
            for (int m = 0; m < n && net.kind[at] != END; m++) {
                int chosen = plan[at];
                if (net.kind[at] == CHANCE) {
                    x = x * DRAW_FACTOR + DRAW_STEP;
                    chosen = drawnWay(at, x >>> 8);
                }
                at = net.target(at, chosen);
            }
            return at;
        }

        private int drawnWay(int p, int number) {
            int together = net.together(p);
            int draw = together == 0 ? 0 : number % together;
            int sum = 0;
            for (int i = 0; i < net.ways[p]; i++) {
                sum += net.weight(p, i);
                if (sum > draw) {
                    return i;
                }
            }
            return 0;
        }
    }

    /** Sets of nodes that need no numbers. */
    private static final class Regions {
        final Net net;

        Regions(Net net) {
            this.net = net;
        }

        int forcedInto(int who, int set) {
            int bits = set;
            int before = NONE;
            for (int r = 0; r < MOST_NODES && bits != before; r++) {
                before = bits;
                for (int p = 0; p < net.nodes; p++) {
                    int after = net.nextNodes(p);
                    boolean some = (after & bits) != 0;
                    boolean all = (after & ~bits) == 0;
                    if (net.kind[p] != END && (net.kind[p] == who ? some : all)) {
                        bits |= 1 << p;
                    }
                }
            }
            return bits;
        }

        /** Nodes are given up till from each that is left play can be brought on to pay without risk of losing. */
        int surelyPaid() {
            int safe = (1 << net.nodes) - 1;
            int before = NONE;
            for (int r = 0; r < MOST_NODES && safe != before; r++) {
                before = safe;
                safe = broughtToPay(safe);
            }
            return safe;
        }

        private int broughtToPay(int safe) {
            int bits = net.payingEnds();
            int before = NONE;
            for (int r = 0; r < MOST_NODES && bits != before; r++) {
                before = bits;
                for (int p = 0; p < net.nodes; p++) {
                    if (net.kind[p] != END && isBroughtToPay(p, bits, safe)) {
                        bits |= 1 << p;
                    }
                }
            }
            return bits;
        }

        private boolean isBroughtToPay(int p, int bits, int safe) {
            int after = net.nextNodes(p);
            switch (net.kind[p]) {
                case MAX:
                    return (after & bits) != 0;
                case MIN:
                    return (after & ~bits) == 0;
                default:
                    return (after & bits) != 0 && (after & ~safe) == 0;
            }
        }

        int movesToPay(int p) {
            int paying = net.payingEnds();
            int reached = 1 << p;
            for (int m = 0; m < MOST_NODES; m++) {
                if ((reached & paying) != 0) {
                    return m;
                }
                int before = reached;
                for (int q = 0; q < net.nodes; q++) {
                    if ((before >> q & 1) != 0) {
                        reached |= net.nextNodes(q);
                    }
                }
            }
            return NONE;
        }
    }
}
