import java.util.ArrayList;
import java.util.List;
import java.util.Random;

/** Long runs of drawn calls, the program against the oracle, call by call. */
public final class RandomRunsTest {
    private static final String[] ASKS = {
        "fault", "node", "way", "worth", "best", "good", "tried", "left", "improve", "improveAll", "stopped", "within",
        "forced", "rings", "ring", "moves", "sets", "rank", "play", "often", "text", "byteAt", "count", "worth", "best",
        "left", "moves", "good", "stopped"};
    private static final String[] CHANGES = {"hold", "hold", "free", "weigh", "weigh", "pay", "pay", "undo", "image"};
    private static final int RUNS = Integer.getInteger("runs", 1500);
    private static final int CALLS = 400;

    private final Random random;
    private final Oracle oracle = new Oracle();
    private final Caller caller = new Caller();
    private final List<String> log = new ArrayList<>();
    private int calls;

    private RandomRunsTest(long seed) {
        random = new Random(seed);
    }

    public static void main(String[] args) {
        int first = Integer.getInteger("first", 1);
        for (int seed = first; seed < first + RUNS; seed++) {
            new RandomRunsTest(seed).run();
        }
        System.out.println("RandomRunsTest: " + RUNS + " runs as the oracle says");
    }

    private void run() {
        boolean big = random.nextInt(12) == 0;
        int games = random.nextInt(3) == 0 ? 0 : 4;
        int changes = random.nextInt(3) == 0 ? 60 : 20;
        while (calls < CALLS) {
            int d = random.nextInt(100);
            if (oracle.game().size() == 0 && random.nextInt(3) > 0 || d < games) {
                tellGame(big);
            } else if (d < changes) {
                String name = random.nextInt(20) == 0 ? "restore" : CHANGES[random.nextInt(CHANGES.length)];
                check(name, arguments(name));
            } else if (d < changes + 4) {
                tellFractions();
            } else {
                String name = ASKS[random.nextInt(ASKS.length)];
                check(name, arguments(name));
            }
        }
    }

    private void check(String name, int... a) {
        long due = oracle.call(name, a);
        long got = caller.call(name, a);
        calls++;
        StringBuilder line = new StringBuilder(name).append('(');
        for (int i = 0; i < a.length; i++) {
            line.append(i == 0 ? "" : ", ").append(a[i]);
        }
        log.add(line.append(") ").append(got == Oracle.THROWS ? "throws" : Long.toString(got)).toString());
        if (due != got) {
            log.forEach(System.out::println);
            System.out.println("due is " + (due == Oracle.THROWS ? "throws" : Long.toString(due)));
            System.exit(1);
        }
    }

    private void feedAll(String bytes) {
        check("end", 0);
        for (int[] five : Caller.fives(bytes)) {
            check("feed", five);
        }
        check("end", bytes.length());
    }

    private void tellGame(boolean big) {
        String text = new GameMaker(random).make(big);
        if (random.nextInt(4) == 0) {
            text = new GameMaker(random).spoil(text);
        }
        log.add("-- " + text);
        feedAll(text);
        check("game");
        check("fault");
        check("count", 0);
    }

    /** Fractions near what proves: worth or left, now and then something else. */
    private void tellFractions() {
        String name = random.nextBoolean() ? "above" : "below";
        int n = oracle.game().size();
        StringBuilder s = new StringBuilder();
        for (int p = 0; p < n; p++) {
            String from = random.nextBoolean() ? "worth" : "left";
            long a = oracle.call(name.equals("above") ? "worth" : from, p, 0);
            long b = oracle.call(name.equals("above") ? "worth" : from, p, 1);
            if (a > 127 || b > 127) {
                a = name.equals("above") ? a / b + 1 : a / b;
                b = 1;
            }
            if (random.nextInt(3 * n) == 0) {
                a = Math.max(0, a + random.nextInt(5) - 2);
            }
            if (random.nextInt(20 * n) == 0) {
                b = random.nextInt(130);
            }
            s.append((char) Math.min(a, 140)).append((char) b);
        }
        if (random.nextInt(15) == 0) {
            s.append('x');
        }
        feedAll(s.toString());
        check(name);
        check("count", 7);
    }

    private int some(int from, int to) {
        return random.nextInt(40) == 0 ? random.nextInt(60) - 30 : from + random.nextInt(to - from + 1);
    }

    private int someNode() {
        return some(0, Math.max(0, oracle.game().size() - 1));
    }

    private int[] arguments(String name) {
        int p = someNode();
        int what = some(0, 1);
        switch (name) {
            case "fault": case "improve": case "improveAll": case "rings": case "text": case "undo":
                return new int[0];
            case "node": return new int[] {p, some(0, 3)};
            case "way": return new int[] {p, some(0, 2), what};
            case "worth": case "left": case "moves": return new int[] {p, what};
            case "stopped": return new int[] {p, some(2, 5), what};
            case "within": return new int[] {p, some(0, random.nextInt(4) == 0 ? 8 : 5), what};
            case "forced": return new int[] {some(1, 2), some(0, (1 << oracle.game().size()) - 1)};
            case "ring": return new int[] {some(0, 2)};
            case "sets": return new int[] {some(0, 2), p};
            case "play": return new int[] {p, random.nextInt(), some(0, random.nextBoolean() ? 5 : 60)};
            case "often": return new int[] {p, random.nextInt(), some(1, 30), what};
            case "byteAt": return new int[] {some(0, 120)};
            case "hold": return new int[] {p, some(0, 2)};
            case "weigh": return new int[] {p, some(0, 2), some(1, 3)};
            case "pay": return new int[] {p, some(0, 9)};
            case "image": case "restore": return new int[] {some(0, 1)};
            case "count": return new int[] {some(0, 7)};
            default: return new int[] {p};
        }
    }
}
