import java.lang.reflect.Method;
import java.util.HashMap;
import java.util.Map;
import java.util.NoSuchElementException;

/** Calls the program by a method's name, so that runs can be written, drawn and compared. */
final class Caller {
    /** No answer of any call: something was thrown that no promise tells of. */
    static final long WRONG_THROW = Oracle.THROWS + 1;

    /** How many numbers each method takes. */
    private static final Map<String, Integer> NUMBERS = new HashMap<>();

    static {
        for (Method m : ChanceRings.class.getMethods()) {
            NUMBERS.put(m.getName(), m.getParameterCount());
        }
    }

    final ChanceRings x = new ChanceRings();

    long call(String name, int... a) {
        if (a.length != NUMBERS.getOrDefault(name, -1)) {
            throw new AssertionError("the test calls " + name + java.util.Arrays.toString(a));
        }
        try {
            return answer(name, a);
        } catch (NoSuchElementException e) {
            return Oracle.THROWS;
        } catch (RuntimeException e) {
            System.out.println(name + java.util.Arrays.toString(a) + " throws " + e);
            return WRONG_THROW;
        }
    }

    private long answer(String name, int[] a) {
        switch (name) {
            case "feed": return x.feed(a[0], a[1], a[2], a[3], a[4]);
            case "end": return x.end(a[0]) ? 1 : 0;
            case "game": return x.game();
            case "fault": return x.fault();
            case "node": return x.node(a[0], a[1]);
            case "way": return x.way(a[0], a[1], a[2]);
            case "worth": return x.worth(a[0], a[1]);
            case "best": return x.best(a[0]);
            case "good": return x.good(a[0]);
            case "tried": return x.tried(a[0]);
            case "left": return x.left(a[0], a[1]);
            case "improve": return x.improve();
            case "improveAll": return x.improveAll();
            case "hold": return x.hold(a[0], a[1]);
            case "free": return x.free(a[0]);
            case "weigh": return x.weigh(a[0], a[1], a[2]);
            case "pay": return x.pay(a[0], a[1]);
            case "stopped": return x.stopped(a[0], a[1], a[2]);
            case "within": return x.within(a[0], a[1], a[2]);
            case "forced": return x.forced(a[0], a[1]);
            case "rings": return x.rings();
            case "ring": return x.ring(a[0]);
            case "moves": return x.moves(a[0], a[1]);
            case "sets": return x.sets(a[0], a[1]);
            case "rank": return x.rank(a[0]);
            case "above": return x.above();
            case "below": return x.below();
            case "play": return x.play(a[0], a[1], a[2]);
            case "often": return x.often(a[0], a[1], a[2], a[3]);
            case "text": return x.text();
            case "byteAt": return x.byteAt(a[0]);
            case "undo": return x.undo();
            case "image": return x.image(a[0]) ? 1 : 0;
            case "restore": return x.restore(a[0]) ? 1 : 0;
            case "count": return x.count(a[0]);
            default: throw new AssertionError(name);
        }
    }

    /** Feeds bytes twenty at a time, behind what is there, and cuts off what fills up the last feed. */
    static void tell(ChanceRings x, String bytes) {
        int before = x.count(7);
        for (int at = 0; at < bytes.length(); at += 20) {
            int[] five = new int[5];
            for (int i = at; i < at + 20 && i < bytes.length(); i++) {
                five[(i - at) / 4] |= (bytes.charAt(i) & 255) << 24 - 8 * (i % 4);
            }
            x.feed(five[0], five[1], five[2], five[3], five[4]);
        }
        x.end(before + bytes.length());
    }

    /** The tape must be empty before. */
    int read(String text) {
        tell(x, text);
        return x.game();
    }

    static int[][] fives(String bytes) {
        int[][] all = new int[(bytes.length() + 19) / 20][5];
        for (int i = 0; i < bytes.length(); i++) {
            all[i / 20][i % 20 / 4] |= (bytes.charAt(i) & 255) << 24 - 8 * (i % 4);
        }
        return all;
    }
}
