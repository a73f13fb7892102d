import java.util.ArrayList;
import java.util.Arrays;
import java.util.List;

/**
 * What the document says of a game, found the slow way: every plan of both players is gone through, and each pair of
 * plans is solved as a chain with exact fractions. Nothing here is taken from the program.
 */
final class OracleGame {
    static final int END = 0;
    static final int MAX = 1;
    static final int MIN = 2;
    static final int CHANCE = 3;

    static final class Node {
        String name;
        int kind;
        int pay;
        int held = -1;
        final List<int[]> ways = new ArrayList<>();

        Node copy() {
            Node n = new Node();
            n.name = name;
            n.kind = kind;
            n.pay = pay;
            n.held = held;
            for (int[] w : ways) {
                n.ways.add(w.clone());
            }
            return n;
        }

        List<Integer> takable() {
            List<Integer> list = new ArrayList<>();
            for (int i = 0; i < ways.size(); i++) {
                if (held == -1 || held == i) {
                    list.add(i);
                }
            }
            return list;
        }

        int together() {
            int sum = 0;
            for (int[] w : ways) {
                sum += w[1];
            }
            return sum;
        }
    }

    final List<Node> nodes = new ArrayList<>();

    OracleGame copy() {
        OracleGame g = new OracleGame();
        for (Node n : nodes) {
            g.nodes.add(n.copy());
        }
        return g;
    }

    int size() {
        return nodes.size();
    }

    Node at(int p) {
        return nodes.get(p);
    }

    int indexOf(String name) {
        for (int p = 0; p < size(); p++) {
            if (at(p).name.equals(name)) {
                return p;
            }
        }
        return -1;
    }

    // ------------------------------------------------------------ plans

    /** All plans of a player in their order: the first node's way counts most. */
    List<int[]> plans(int kind) {
        List<int[]> all = new ArrayList<>();
        grow(kind, 0, new int[size()], all);
        return all;
    }

    private void grow(int kind, int p, int[] plan, List<int[]> all) {
        if (p == size()) {
            all.add(plan.clone());
        } else if (at(p).kind != kind) {
            grow(kind, p + 1, plan, all);
        } else {
            for (int i : at(p).takable()) {
                plan[p] = i;
                grow(kind, p + 1, plan, all);
            }
        }
    }

    int[] join(int[] max, int[] min) {
        int[] both = new int[size()];
        for (int p = 0; p < size(); p++) {
            both[p] = at(p).kind == MAX ? max[p] : min[p];
        }
        return both;
    }

    /** Chance of going from p to q in one move. */
    Fraction step(int[] both, int p, int q) {
        Node n = at(p);
        if (n.kind == END) {
            return Fraction.ZERO;
        }
        if (n.kind != CHANCE) {
            return n.ways.get(both[p])[0] == q ? Fraction.ONE : Fraction.ZERO;
        }
        int sum = 0;
        for (int[] w : n.ways) {
            if (w[0] == q) {
                sum += w[1];
            }
        }
        return Fraction.of(sum, n.together());
    }

    boolean[][] reach(int[] both) {
        int n = size();
        boolean[][] r = new boolean[n][n];
        for (int p = 0; p < n; p++) {
            for (int q = 0; q < n; q++) {
                r[p][q] = p == q || !step(both, p, q).isZero();
            }
        }
        for (int k = 0; k < n; k++) {
            for (int p = 0; p < n; p++) {
                for (int q = 0; q < n; q++) {
                    r[p][q] |= r[p][k] && r[k][q];
                }
            }
        }
        return r;
    }

    boolean reachesEnd(boolean[][] reach, int p) {
        for (int q = 0; q < size(); q++) {
            if (reach[p][q] && at(q).kind == END) {
                return true;
            }
        }
        return false;
    }

    /** x(p) = add(p) + on * sum of step * x(q) for the open nodes, the others are given. */
    Fraction[] solve(int[] both, boolean[] open, Fraction[] given, Fraction add, Fraction on) {
        int n = size();
        List<Integer> unknown = new ArrayList<>();
        for (int p = 0; p < n; p++) {
            if (open[p]) {
                unknown.add(p);
            }
        }
        int m = unknown.size();
        Fraction[][] a = new Fraction[m][m + 1];
        for (int i = 0; i < m; i++) {
            Arrays.fill(a[i], Fraction.ZERO);
            a[i][i] = Fraction.ONE;
            a[i][m] = add;
            for (int q = 0; q < n; q++) {
                Fraction s = step(both, unknown.get(i), q);
                if (s.isZero()) {
                    continue;
                }
                s = s.times(on);
                if (open[q]) {
                    int j = unknown.indexOf(q);
                    a[i][j] = a[i][j].minus(s);
                } else {
                    a[i][m] = a[i][m].plus(s.times(given[q]));
                }
            }
        }
        for (int k = 0; k < m; k++) {
            int pick = k;
            while (a[pick][k].isZero()) {
                pick++;
            }
            Fraction[] t = a[k];
            a[k] = a[pick];
            a[pick] = t;
            for (int i = 0; i < m; i++) {
                if (i != k && !a[i][k].isZero()) {
                    Fraction f = a[i][k].over(a[k][k]);
                    for (int j = k; j <= m; j++) {
                        a[i][j] = a[i][j].minus(f.times(a[k][j]));
                    }
                }
            }
        }
        Fraction[] x = given.clone();
        for (int i = 0; i < m; i++) {
            x[unknown.get(i)] = a[i][m].over(a[i][i]);
        }
        return x;
    }

    /** Pay expected by plans of both; q of 0: never stopped. */
    Fraction[] pays(int[] both, int q) {
        int n = size();
        boolean[][] reach = reach(both);
        boolean[] open = new boolean[n];
        Fraction[] given = new Fraction[n];
        for (int p = 0; p < n; p++) {
            given[p] = at(p).kind == END ? Fraction.of(at(p).pay, 1) : Fraction.ZERO;
            open[p] = at(p).kind != END && reachesEnd(reach, p);
        }
        return solve(both, open, given, Fraction.ZERO, q == 0 ? Fraction.ONE : Fraction.of(q - 1, q));
    }

    Fraction[] left(int[] max, int q) {
        Fraction[] least = null;
        for (int[] min : plans(MIN)) {
            Fraction[] x = pays(join(max, min), q);
            least = least == null ? x : pick(least, x, -1);
        }
        return least;
    }

    private Fraction[] most(int[] min) {
        Fraction[] most = null;
        for (int[] max : plans(MAX)) {
            Fraction[] x = pays(join(max, min), 0);
            most = most == null ? x : pick(most, x, 1);
        }
        return most;
    }

    private Fraction[] pick(Fraction[] a, Fraction[] b, int sign) {
        Fraction[] c = new Fraction[a.length];
        for (int p = 0; p < a.length; p++) {
            c[p] = a[p].compareTo(b[p]) * sign >= 0 ? a[p] : b[p];
        }
        return c;
    }

    Fraction[] worth(int q) {
        Fraction[] most = null;
        for (int[] max : plans(MAX)) {
            Fraction[] x = left(max, q);
            most = most == null ? x : pick(most, x, 1);
        }
        return most;
    }

    /** The first plans of both by which nothing of worth is lost. */
    int[] bestOfBoth(Fraction[] worth) {
        int[] bestMax = null;
        for (int[] max : plans(MAX)) {
            if (bestMax == null && Arrays.equals(left(max, 0), worth)) {
                bestMax = max;
            }
        }
        int[] bestMin = null;
        for (int[] min : plans(MIN)) {
            if (bestMin == null && Arrays.equals(most(min), worth)) {
                bestMin = min;
            }
        }
        return join(bestMax, bestMin);
    }

    int good(int p, Fraction[] worth) {
        int bits = 0;
        for (int i : at(p).takable()) {
            OracleGame g = copy();
            g.at(p).held = i;
            if (Arrays.equals(g.worth(0), worth)) {
                bits |= 1 << i;
            }
        }
        return bits;
    }

    Fraction within(int p, int k) {
        Node n = at(p);
        if (n.kind == END) {
            return Fraction.of(n.pay, 1);
        }
        if (k == 0) {
            return Fraction.ZERO;
        }
        Fraction found = null;
        Fraction sum = Fraction.ZERO;
        for (int i : n.takable()) {
            Fraction x = within(n.ways.get(i)[0], k - 1);
            sum = sum.plus(x.times(Fraction.of(n.ways.get(i)[1], n.together())));
            if (found == null || x.compareTo(found) * (n.kind == MAX ? 1 : -1) > 0) {
                found = x;
            }
        }
        return n.kind == CHANCE ? sum : found;
    }

    // ------------------------------------------------------------ sets

    /** Some plan of the player, by which no walk of the others keeps off the set. */
    int forced(int who, int set) {
        int bits = set;
        for (int[] plan : plans(who)) {
            // nodes from which the others can keep off it for as many moves as there are nodes, or stop at an end
            boolean[] off = new boolean[size()];
            for (int p = 0; p < size(); p++) {
                off[p] = (set >> p & 1) == 0;
            }
            for (int r = 0; r <= size(); r++) {
                boolean[] next = new boolean[size()];
                for (int p = 0; p < size(); p++) {
                    boolean can = at(p).kind == END;
                    for (int i : at(p).takable()) {
                        boolean taken = at(p).kind != who || plan[p] == i;
                        can |= taken && off[at(p).ways.get(i)[0]];
                    }
                    next[p] = off[p] && can;
                }
                off = next;
            }
            for (int p = 0; p < size(); p++) {
                bits |= off[p] ? 0 : 1 << p;
            }
        }
        return bits;
    }

    List<Integer> rings(int[] both) {
        boolean[][] reach = reach(both);
        List<Integer> found = new ArrayList<>();
        for (int p = 0; p < size(); p++) {
            int bits = 0;
            boolean is = at(p).kind != END;
            for (int q = 0; q < size(); q++) {
                if (reach[p][q]) {
                    bits |= 1 << q;
                    is &= reach[q][p] && q >= p;
                }
            }
            if (is) {
                found.add(bits);
            }
        }
        return found;
    }

    /** null: never. */
    Fraction[] moves(int[] both) {
        boolean[][] reach = reach(both);
        boolean[] open = new boolean[size()];
        Fraction[] given = new Fraction[size()];
        int inRings = 0;
        for (int bits : rings(both)) {
            inRings |= bits;
        }
        for (int p = 0; p < size(); p++) {
            open[p] = at(p).kind != END;
            given[p] = Fraction.ZERO;
            for (int q = 0; q < size(); q++) {
                open[p] &= !(reach[p][q] && (inRings >> q & 1) != 0);
            }
        }
        Fraction[] x = solve(both, open, given, Fraction.ONE, Fraction.ONE);
        for (int p = 0; p < size(); p++) {
            if (at(p).kind != END && !open[p]) {
                x[p] = null;
            }
        }
        return x;
    }

    /** Nodes whose chance to be paid is 1: those worth 1, if each end that pays paid 1. */
    int sure() {
        OracleGame g = copy();
        for (Node n : g.nodes) {
            n.pay = n.kind == END && n.pay > 0 ? 1 : 0;
        }
        int bits = 0;
        Fraction[] w = g.worth(0);
        for (int p = 0; p < size(); p++) {
            bits |= w[p].equals(Fraction.ONE) ? 1 << p : 0;
        }
        return bits;
    }

    int soon(int p, int moves) {
        if (at(p).kind == END) {
            return at(p).pay > 0 ? 0 : -1;
        }
        int least = -1;
        for (int i : at(p).takable()) {
            int s = moves > 0 ? soon(at(p).ways.get(i)[0], moves - 1) : -1;
            if (s >= 0 && (least < 0 || s + 1 < least)) {
                least = s + 1;
            }
        }
        return least;
    }
}
