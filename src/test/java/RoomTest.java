import java.lang.management.ManagementFactory;
import java.util.NoSuchElementException;

/** A run of 512 dear calls makes next to nothing: rows are made in the constructor and used again. */
public final class RoomTest {
    private static final String TEXT = "chance a;chance b;chance c;chance d;chance e;max f;min g;max h;end w 9;end z 1;"
        + "way a b;way a f 3;way b c;way b g 3;way c d;way c h 3;way d e;way d z 3;way e w;way e h 3;"
        + "way f a;way f g;way f h;way g h;way g a;way g b;way h z;way h f;way h c;";

    public static void main(String[] args) {
        com.sun.management.ThreadMXBean bean = (com.sun.management.ThreadMXBean) ManagementFactory.getThreadMXBean();
        run();
        long before = bean.getCurrentThreadAllocatedBytes();
        ChanceRings x = new ChanceRings();
        long made = bean.getCurrentThreadAllocatedBytes();
        calls(x);
        long after = bean.getCurrentThreadAllocatedBytes();
        Due due = new Due("RoomTest");
        due.holds("a new object takes " + (made - before) + " bytes", made - before < 40_000);
        due.holds("512 calls make " + (after - made) + " bytes", after - made < 200_000);
        due.finish();
    }

    private static void run() {
        calls(new ChanceRings());
    }

    private static void calls(ChanceRings x) {
        for (int[] five : Caller.fives(TEXT)) {
            x.feed(five[0], five[1], five[2], five[3], five[4]);
        }
        x.end(TEXT.length());
        x.game();
        for (int k = 0; k < 50; k++) {
            x.pay(8, k % 10);
            x.worth(0, k % 2);
            x.stopped(0, 2 + k % 4, 0);
            x.good(5);
            x.improveAll();
            x.within(0, 8, 0);
            x.often(0, k, 30, 0);
            x.text();
            x.image(k % 2);
            try {
                x.moves(-1, 0);
            } catch (NoSuchElementException e) {
                x.rings();
            }
        }
    }
}
