import java.util.ArrayList;
import java.util.List;
import java.util.Set;
import java.util.regex.Matcher;
import java.util.regex.Pattern;

/** Reads a game as the document says: all tokens first, then all faults that are found, of which the first is told. */
final class OracleReader {
    private static final Pattern TOKEN = Pattern.compile(" +|;|[a-z0-9]+|[^;a-z0-9 ]", Pattern.DOTALL);
    private static final Set<String> KINDS = Set.of("end", "max", "min", "chance");
    private static final List<String> KIND_ORDER = List.of("end", "max", "min", "chance");

    private final List<String> tokens = new ArrayList<>();
    private final List<Integer> places = new ArrayList<>();
    private int next;
    /** place * 10 + kind of the first fault. */
    private int first = Integer.MAX_VALUE;
    OracleGame game = new OracleGame();

    OracleReader(String text) {
        if (text.length() > 400) {
            fault(400, 1);
            return;
        }
        Matcher m = TOKEN.matcher(text);
        while (m.find()) {
            if (!m.group().startsWith(" ")) {
                tokens.add(m.group());
                places.add(m.start());
            }
        }
        tokens.add("");
        places.add(text.length());
        while (next < tokens.size() - 1 && first == Integer.MAX_VALUE) {
            line();
        }
        for (OracleGame.Node n : game.nodes) {
            if (n.kind != OracleGame.END && n.ways.isEmpty()) {
                fault(text.length(), 5);
            }
        }
    }

    int kind() {
        return first == Integer.MAX_VALUE ? 0 : first % 10;
    }

    int place() {
        return first / 10;
    }

    private void fault(int place, int kind) {
        first = Math.min(first, place * 10 + kind);
    }

    private void faultHere(int kind) {
        fault(places.get(next), kind);
    }

    private String token() {
        return tokens.get(next);
    }

    private boolean isName() {
        return token().matches("[a-z]{1,6}") && !KINDS.contains(token()) && !token().equals("way");
    }

    private boolean isNumber() {
        return token().matches("[0-9]{1,2}");
    }

    private long countOf(int kind) {
        return game.nodes.stream().filter(n -> n.kind == kind).count();
    }

    private void line() {
        if (token().equals("way")) {
            way();
        } else if (KINDS.contains(token())) {
            node(KIND_ORDER.indexOf(token()));
        } else {
            faultHere(1);
        }
        if (first == Integer.MAX_VALUE) {
            if (!token().equals(";")) {
                faultHere(1);
            }
            next++;
        }
    }

    private void node(int kind) {
        OracleGame.Node n = new OracleGame.Node();
        n.kind = kind;
        boolean full = kind == OracleGame.END ? countOf(kind) == 4 : game.size() - countOf(OracleGame.END) == 8;
        if (full || kind == OracleGame.CHANCE && countOf(kind) == 5) {
            faultHere(4);
            return;
        }
        next++;
        if (!isName()) {
            faultHere(1);
            return;
        }
        if (game.indexOf(token()) >= 0) {
            faultHere(3);
            return;
        }
        n.name = token();
        next++;
        if (kind == OracleGame.END) {
            if (!isNumber()) {
                faultHere(1);
                return;
            }
            n.pay = Integer.parseInt(token());
            if (n.pay > 9) {
                faultHere(2);
                return;
            }
            next++;
        }
        game.nodes.add(n);
    }

    private void way() {
        next++;
        if (!isName()) {
            faultHere(1);
            return;
        }
        int from = game.indexOf(token());
        if (from < 0 || game.at(from).kind == OracleGame.END) {
            faultHere(3);
            return;
        }
        OracleGame.Node n = game.at(from);
        if (n.ways.size() == 3) {
            faultHere(4);
            return;
        }
        next++;
        if (!isName()) {
            faultHere(1);
            return;
        }
        int to = game.indexOf(token());
        if (to < 0) {
            faultHere(3);
        }
        int weight = 1;
        next++;
        if (isNumber()) {
            weight = Integer.parseInt(token());
            if (n.kind != OracleGame.CHANCE) {
                faultHere(1);
            } else if (weight < 1 || weight > 3 || n.together() + weight > 4) {
                faultHere(2);
            }
            next++;
        } else if (n.kind == OracleGame.CHANCE && n.together() == 4) {
            fault(places.get(next - 1), 2);
        }
        n.ways.add(new int[] {to, weight});
    }
}
