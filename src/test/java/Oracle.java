import java.util.ArrayDeque;
import java.util.ArrayList;
import java.util.Arrays;
import java.util.Deque;
import java.util.List;

/** The whole face as the document tells it, slow and plain. Where the program would throw, it answers THROWS. */
final class Oracle {
    static final long THROWS = Long.MIN_VALUE;
    private static final int NONE = -1;

    private final StringBuilder tape = new StringBuilder();
    private OracleGame game = new OracleGame();
    private int fault;
    private String text = "";
    private final Deque<OracleGame> undos = new ArrayDeque<>();
    private final OracleGame[] images = new OracleGame[2];
    private int[] tried = new int[0];

    private Fraction[] worth;
    private int[] best;
    private Fraction[] left;
    private final Fraction[][] stopped = new Fraction[6][];

    OracleGame game() {
        return game;
    }

    private void forget() {
        worth = null;
        best = null;
        left = null;
        Arrays.fill(stopped, null);
        tried = new int[game.size()];
        for (int p = 0; p < game.size(); p++) {
            tried[p] = Math.max(0, game.at(p).held);
        }
    }

    private Fraction[] worth() {
        if (worth == null) {
            worth = game.worth(0);
        }
        return worth;
    }

    private int[] best() {
        if (best == null) {
            best = game.bestOfBoth(worth());
        }
        return best;
    }

    private Fraction[] left() {
        if (left == null) {
            left = game.left(tried, 0);
        }
        return left;
    }

    private boolean has(int p) {
        return p >= 0 && p < game.size();
    }

    private boolean hasKind(int p, int... kinds) {
        return has(p) && Arrays.stream(kinds).anyMatch(k -> game.at(p).kind == k);
    }

    private boolean isChooser(int p) {
        return hasKind(p, OracleGame.MAX, OracleGame.MIN);
    }

    /** Keeps the game as it was, and works on a copy. */
    private OracleGame.Node change(int p) {
        undos.addLast(game.copy());
        if (undos.size() > 8) {
            undos.removeFirst();
        }
        return game.at(p);
    }

    long call(String name, int... a) {
        switch (name) {
            case "feed": return feed(a);
            case "end": return end(a[0]);
            case "game": return read();
            case "fault": return fault;
            case "node": return node(a[0], a[1]);
            case "way": return way(a[0], a[1], a[2]);
            case "worth": return has(a[0]) && (a[1] | 1) == 1 ? worth()[a[0]].term(a[1]) : THROWS;
            case "best": return isChooser(a[0]) ? best()[a[0]] : NONE;
            case "good": return isChooser(a[0]) ? game.good(a[0], worth()) : NONE;
            case "tried": return hasKind(a[0], OracleGame.MAX) ? tried[a[0]] : NONE;
            case "left": return has(a[0]) && (a[1] | 1) == 1 ? left()[a[0]].term(a[1]) : THROWS;
            case "improve": return improve();
            case "improveAll": return improveAll();
            case "hold": return hold(a[0], a[1]);
            case "free": return free(a[0]);
            case "weigh": return weigh(a[0], a[1], a[2]);
            case "pay": return pay(a[0], a[1]);
            case "stopped": return stopped(a[0], a[1], a[2]);
            case "within":
                return has(a[0]) && a[1] >= 0 && a[1] <= 8 && (a[2] | 1) == 1 ? game.within(a[0], a[1]).term(a[2]) : THROWS;
            case "forced":
                return a[0] != 1 && a[0] != 2 || a[1] < 0 || a[1] >>> game.size() != 0 ? NONE : game.forced(a[0], a[1]);
            case "rings": return game.rings(best()).size();
            case "ring": return a[0] >= 0 && a[0] < game.rings(best()).size() ? game.rings(best()).get(a[0]) : NONE;
            case "moves": return moves(a[0], a[1]);
            case "sets": return sets(a[0], a[1]);
            case "rank": return rank(a[0]);
            case "above": return above();
            case "below": return below();
            case "play": return has(a[0]) && a[2] >= 0 && a[2] <= 60 ? walk(a[0], a[1], a[2]) : NONE;
            case "often": return often(a[0], a[1], a[2], a[3]);
            case "text": return tell();
            case "byteAt": return a[0] >= 0 && a[0] < text.length() ? text.charAt(a[0]) : NONE;
            case "undo": return undo();
            case "image": return image(a[0]);
            case "restore": return restore(a[0]);
            case "count": return count(a[0]);
            default: throw new IllegalArgumentException(name);
        }
    }

    private long feed(int[] a) {
        if (tape.length() > 420) {
            return NONE;
        }
        for (int number : a) {
            for (int k = 3; k >= 0; k--) {
                tape.append((char) (number >> 8 * k & 255));
            }
        }
        return tape.length();
    }

    private long end(int n) {
        if (n < 0 || n > tape.length()) {
            return 0;
        }
        tape.setLength(n);
        return 1;
    }

    private long read() {
        OracleReader reader = new OracleReader(tape.toString());
        tape.setLength(0);
        fault = reader.kind();
        if (fault != 0) {
            return -1000 - reader.place();
        }
        game = reader.game;
        undos.clear();
        forget();
        return game.size();
    }

    private long node(int p, int what) {
        if (!has(p) || what < 0 || what > 3) {
            return THROWS;
        }
        OracleGame.Node n = game.at(p);
        return new int[] {n.kind, n.kind == OracleGame.END ? n.pay : NONE, n.ways.size(), n.held}[what];
    }

    private long way(int p, int i, int what) {
        boolean is = has(p) && i >= 0 && i < game.at(p).ways.size() && (what | 1) == 1;
        return is ? game.at(p).ways.get(i)[what] : THROWS;
    }

    private int improve() {
        int[] now = tried.clone();
        int turned = 0;
        for (int p = 0; p < game.size(); p++) {
            OracleGame.Node n = game.at(p);
            if (n.kind == OracleGame.MAX && n.held == NONE) {
                int most = 0;
                for (int i = 1; i < n.ways.size(); i++) {
                    if (left()[n.ways.get(i)[0]].compareTo(left()[n.ways.get(most)[0]]) > 0) {
                        most = i;
                    }
                }
                if (left()[n.ways.get(most)[0]].compareTo(left()[n.ways.get(tried[p])[0]]) > 0) {
                    now[p] = most;
                    turned++;
                }
            }
        }
        tried = now;
        left = null;
        return turned;
    }

    private long improveAll() {
        int rounds = 0;
        while (improve() > 0) {
            rounds++;
        }
        return rounds;
    }

    private long hold(int p, int i) {
        if (!isChooser(p) || i < 0 || i >= game.at(p).ways.size()) {
            return NONE;
        }
        if (game.at(p).held == i) {
            return 1;
        }
        change(p).held = i;
        forget();
        return 0;
    }

    private long free(int p) {
        if (!has(p)) {
            return NONE;
        }
        if (game.at(p).held == NONE) {
            return 1;
        }
        change(p).held = NONE;
        forget();
        return 0;
    }

    private long weigh(int p, int i, int w) {
        if (!hasKind(p, OracleGame.CHANCE) || i < 0 || i >= game.at(p).ways.size() || w < 1 || w > 3) {
            return NONE;
        }
        int now = game.at(p).ways.get(i)[1];
        if (now == w) {
            return 1;
        }
        if (game.at(p).together() + w - now > 4) {
            return 2;
        }
        change(p).ways.get(i)[1] = w;
        forget();
        return 0;
    }

    private long pay(int p, int n) {
        if (!hasKind(p, OracleGame.END) || n < 0 || n > 9) {
            return NONE;
        }
        if (game.at(p).pay == n) {
            return 1;
        }
        change(p).pay = n;
        forget();
        return 0;
    }

    private long stopped(int p, int q, int what) {
        if (!has(p) || q < 2 || q > 5 || (what | 1) != 1) {
            return THROWS;
        }
        if (stopped[q] == null) {
            stopped[q] = game.worth(q);
        }
        return stopped[q][p].term(what);
    }

    private long moves(int p, int what) {
        if (!has(p) || (what | 1) != 1) {
            return THROWS;
        }
        Fraction f = game.moves(best())[p];
        return f == null ? THROWS : f.term(what);
    }

    private long sets(int what, int p) {
        if (what == 0) {
            int bits = 0;
            for (int q = 0; q < game.size(); q++) {
                bits |= worth()[q].isZero() ? 1 << q : 0;
            }
            return bits;
        }
        if (what == 1) {
            return game.sure();
        }
        return what == 2 && has(p) ? game.soon(p, game.size()) : NONE;
    }

    private long rank(int i) {
        if (!has(i)) {
            return NONE;
        }
        List<Integer> order = new ArrayList<>();
        for (int p = 0; p < game.size(); p++) {
            order.add(p);
        }
        order.sort((p, q) -> worth()[q].compareTo(worth()[p]));
        return order.get(i);
    }

    /** null: the tape does not tell so. */
    private Fraction[] told() {
        String s = tape.toString();
        tape.setLength(0);
        Fraction[] f = new Fraction[game.size()];
        boolean is = s.length() == 2 * f.length;
        for (int p = 0; is && p < f.length; p++) {
            is = s.charAt(2 * p) <= 127 && s.charAt(2 * p + 1) <= 127 && s.charAt(2 * p + 1) != 0;
            f[p] = is ? Fraction.of(s.charAt(2 * p), s.charAt(2 * p + 1)) : null;
        }
        return is ? f : null;
    }

    private long above() {
        Fraction[] f = told();
        if (f == null) {
            return -2;
        }
        for (int p = 0; p < f.length; p++) {
            OracleGame.Node n = game.at(p);
            Fraction bound = n.kind == OracleGame.END ? Fraction.of(n.pay, 1) : null;
            Fraction mean = Fraction.ZERO;
            for (int i : n.takable()) {
                Fraction x = f[n.ways.get(i)[0]];
                mean = mean.plus(x.times(Fraction.of(n.ways.get(i)[1], n.together())));
                if (bound == null || x.compareTo(bound) * (n.kind == OracleGame.MAX ? 1 : -1) > 0) {
                    bound = x;
                }
            }
            if (f[p].compareTo(n.kind == OracleGame.CHANCE ? mean : bound) < 0) {
                return p;
            }
        }
        return NONE;
    }

    private long below() {
        Fraction[] f = told();
        if (f == null) {
            return -2;
        }
        for (int p = 0; p < f.length; p++) {
            if (left()[p].compareTo(f[p]) < 0) {
                return p;
            }
        }
        return NONE;
    }

    private int walk(int p, int seed, int n) {
        int x = seed;
        int at = p;
        for (int m = 0; m < n; m++) {
            OracleGame.Node here = game.at(at);
            if (here.kind == OracleGame.CHANCE) {
                x = (int) (x * 1103515245L + 12345L);
                int draw = (x >>> 8) % here.together();
                List<Integer> lots = new ArrayList<>();
                for (int[] w : here.ways) {
                    for (int k = 0; k < w[1]; k++) {
                        lots.add(w[0]);
                    }
                }
                at = lots.get(draw);
            } else if (here.kind != OracleGame.END) {
                at = here.ways.get(best()[at])[0];
            }
        }
        return at;
    }

    private long often(int p, int seed, int n, int what) {
        if (!has(p) || n < 1 || n > 30 || (what | 1) != 1) {
            return NONE;
        }
        int sum = 0;
        for (int k = 0; k < n; k++) {
            OracleGame.Node last = game.at(walk(p, seed + k, 60));
            sum += last.kind != OracleGame.END ? 0 : what == 0 ? last.pay : 1;
        }
        return sum;
    }

    private long tell() {
        StringBuilder s = new StringBuilder();
        for (OracleGame.Node n : game.nodes) {
            s.append(List.of("end", "max", "min", "chance").get(n.kind)).append(' ').append(n.name);
            s.append(n.kind == OracleGame.END ? " " + n.pay : "").append(';');
        }
        for (OracleGame.Node n : game.nodes) {
            for (int[] w : n.ways) {
                s.append("way ").append(n.name).append(' ').append(game.at(w[0]).name);
                s.append(n.kind == OracleGame.CHANCE ? " " + w[1] : "").append(';');
            }
        }
        text = s.toString();
        return text.length();
    }

    private long undo() {
        if (undos.isEmpty()) {
            return NONE;
        }
        game = undos.removeLast();
        forget();
        return undos.size();
    }

    private long image(int k) {
        if (k < 0 || k > 1) {
            return 0;
        }
        images[k] = game.copy();
        return 1;
    }

    private long restore(int k) {
        if (k < 0 || k > 1 || images[k] == null) {
            return 0;
        }
        game = images[k].copy();
        undos.clear();
        forget();
        return 1;
    }

    private long count(int what) {
        int ways = 0;
        int held = 0;
        int[] kinds = new int[4];
        for (int p = 0; p < game.size(); p++) {
            ways += game.at(p).ways.size();
            held |= game.at(p).held != NONE ? 1 << p : 0;
            kinds[game.at(p).kind]++;
        }
        int[] all = {game.size(), kinds[1], kinds[2], kinds[3], kinds[0], ways, held, tape.length()};
        return what >= 0 && what < all.length ? all[what] : NONE;
    }
}
