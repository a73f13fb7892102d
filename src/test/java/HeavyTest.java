import java.util.Random;

/** The largest games: five chance nodes with weights of 4 together (the largest fractions), eight choosers. */
public final class HeavyTest {
    private final Due due = new Due("HeavyTest");
    private final Random random = new Random(17);

    public static void main(String[] args) {
        HeavyTest test = new HeavyTest();
        for (int k = 0; k < 60; k++) {
            test.compare(test.heavy(5, 3, 3), true);
        }
        for (int k = 0; k < 6; k++) {
            test.compare(test.heavy(0, 8, 2), false);
            test.compare(test.heavy(0, 8, k < 2 ? 3 : 2), false);
            test.compare(test.heavy(2, 6, 3), false);
        }
        test.slowest();
        test.due.finish();
    }

    private String heavy(int chances, int choosers, int ways) {
        StringBuilder s = new StringBuilder();
        int nodes = chances + choosers;
        for (int k = 0; k < nodes; k++) {
            s.append(k < chances ? "chance " : random.nextBoolean() ? "max " : "min ").append((char) ('a' + k)).append(';');
        }
        s.append("end w ").append(random.nextInt(10)).append(";end z ").append(random.nextInt(10)).append(';');
        String targets = "abcdefgh".substring(0, nodes) + "wz";
        for (int k = 0; k < nodes; k++) {
            boolean two = random.nextBoolean();
            int[] weights = two ? new int[] {3, 1} : new int[] {1, 2, 1};
            int count = k < chances ? weights.length : ways;
            for (int i = 0; i < count; i++) {
                s.append("way ").append((char) ('a' + k)).append(' ');
                s.append(targets.charAt(random.nextInt(targets.length())));
                s.append(k < chances && weights[i] > 1 ? " " + weights[i] : "").append(';');
            }
        }
        return s.toString();
    }

    private void compare(String text, boolean all) {
        Caller c = new Caller();
        Oracle o = new Oracle();
        for (int[] five : Caller.fives(text)) {
            o.call("feed", five);
        }
        o.call("end", text.length());
        due.is(text, c.read(text), o.call("game"));
        int n = o.game().size();
        for (int p = 0; p < n; p++) {
            for (int what = 0; what < 2; what++) {
                ask(c, o, text, "worth", p, what);
                ask(c, o, text, "moves", p, what);
                ask(c, o, text, "left", p, what);
                ask(c, o, text, "stopped", p, 5, what);
                ask(c, o, text, "within", p, all ? 8 : 5, what);
                for (int q = 2; all && q < 5; q++) {
                    ask(c, o, text, "stopped", p, q, what);
                }
            }
            ask(c, o, text, "best", p);
            if (all) {
                ask(c, o, text, "good", p);
            }
        }
        ask(c, o, text, "rings");
        ask(c, o, text, "improveAll");
        for (int p = 0; p < n; p++) {
            ask(c, o, text, "tried", p);
            due.is("left comes to worth in " + text, c.call("left", p, 0), c.call("worth", p, 0));
        }
    }

    private void ask(Caller c, Oracle o, String text, String name, int... a) {
        due.is(name + java.util.Arrays.toString(a) + " of " + text, c.call(name, a), o.call(name, a));
    }

    /** Through five chances of one in four, or all over again. */
    private void slowest() {
        String text = "chance a;chance b;chance c;chance d;chance e;max f;max g;max h;end w 9;way h g;way g f;way f a;"
            + "way a b;way a h 3;way b c;way b h 3;way c d;way c h 3;way d e;way d h 3;way e w;way e h 3;";
        compare(text, true);
        Caller c = new Caller();
        c.read(text);
        due.is("worth", c.x.worth(7, 0), 9);
        // h = 3 + a, a = (1 + 3 h / 4) * (1 + 1/4 + .. + 1/256)
        due.is("moves above", c.x.moves(7, 0), 4436);
        due.is("moves below", c.x.moves(7, 1), 1);
    }
}
