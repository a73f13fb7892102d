/** One method for each promise, with answers worked out by hand: ordinary ones, edges, wrong inputs. */
public final class PromiseTest {
    private static final long THROWS = Oracle.THROWS;
    private static final int[] ODD = {-1, 99, Integer.MIN_VALUE, Integer.MAX_VALUE};

    /** s 0, t 1, c 2, hi 3, lo 4, no 5: worth 6, 2, 6, 9, 2, 0. */
    private static final String FORK = "max s;min t;chance c;end hi 9;end lo 2;end no 0;"
        + "way s t;way s c;way t hi;way t lo;way c hi 2;way c no;way c s;";
    private static final String FORK_TOLD = "max s;min t;chance c;end hi 9;end lo 2;end no 0;"
        + "way s t;way s c;way t hi;way t lo;way c hi 2;way c no 1;way c s 1;";
    /** a 0 and b 1 can pass play to each other for ever, or take g. */
    private static final String PAIR = "max a;max b;end g 5;way a b;way a g;way b a;way b g;";
    /** MIN goes round at b unless it is held off: worth 0. */
    private static final String ROUND = "max a;min b;end g 5;way a b;way a a;way b a;way b g;";
    /** From w chance may come to the ring of u and v, or to the ring of x, or to the end. */
    private static final String TWO_RINGS = "chance w;min u;max v;max x;end g 4;"
        + "way w u;way w x;way w g 2;way u v;way v u;way x x;";

    private final Due due = new Due("PromiseTest");
    private Caller c;

    public static void main(String[] args) {
        new PromiseTest().run();
    }

    private void run() {
        p01NewObject();
        p02Feed();
        p03End();
        p04Game();
        p05Fault();
        p06Node();
        p07Way();
        p08Worth();
        p09Best();
        p10Good();
        p11Tried();
        p12Left();
        p13Improve();
        p14ImproveAll();
        p15Hold();
        p16Free();
        p17Weigh();
        p18Pay();
        p19Stopped();
        p20Within();
        p21Forced();
        p22p23Rings();
        p24Moves();
        p25Sets();
        p26Rank();
        p27Above();
        p28Below();
        p29Play();
        p30Often();
        p31p32Text();
        p33Undo();
        p34p35Images();
        p36Count();
        triedAnew();
        due.finish();
    }

    private void fresh(String text, int nodes) {
        c = new Caller();
        due.is(text, c.read(text), nodes);
    }

    private void is(long answer, String name, int... a) {
        due.is(name + java.util.Arrays.toString(a), c.call(name, a), answer);
    }

    private void fraction(long above, long below, String name, int... a) {
        int[] more = java.util.Arrays.copyOf(a, a.length + 1);
        is(above, name, more);
        more[a.length] = 1;
        is(below, name, more);
        for (int odd : ODD) {
            more[a.length] = odd;
            is(THROWS, name, more);
        }
        more[a.length] = 2;
        is(THROWS, name, more);
    }

    private void p01NewObject() {
        c = new Caller();
        for (int what = 0; what < 8; what++) {
            is(0, "count", what);
        }
        is(0, "fault");
        is(-1, "byteAt", 0);
        is(-1, "undo");
        is(0, "restore", 0);
        is(0, "restore", 1);
        is(0, "rings");
        is(0, "text");
        is(0, "improve");
        is(0, "sets", 0, 0);
        is(0, "sets", 1, 0);
        is(THROWS, "node", 0, 0);
    }

    private void p02Feed() {
        c = new Caller();
        for (int k = 1; k <= 22; k++) {
            is(20 * k, "feed", 0x6d617820, 0x613b0000, 0, 0, 0);
        }
        is(-1, "feed", 1, 2, 3, 4, 5);
        is(440, "count", 7);
        is(1, "end", 421);
        is(-1, "feed", 1, 2, 3, 4, 5);
        is(1, "end", 420);
        is(440, "feed", 1, 2, 3, 4, 5);
        c = new Caller();
        // e n d _ | b y t e | _ 9 ; m | a x _ q | ; w a y and behind it: _ q _ q ;
        is(20, "feed", 0x656e6420, 0x62797465, 0x20393b6d, 0x61782071, 0x3b776179);
        is(40, "feed", 0x20712071, 0x3b000000, -1, -1, -1);
        is(1, "end", 25);
        is(2, "game");
        is(9, "node", 0, 1);
        c = new Caller();
        is(20, "feed", 0x656e6420, 0x673180ff, 0, 0, 0);
        is(1, "end", 8);
        is(-1004, "game");
    }

    private void p03End() {
        c = new Caller();
        is(1, "end", 0);
        is(0, "end", 1);
        is(0, "end", -1);
        is(20, "feed", 0, 0, 0, 0, 0);
        is(0, "end", 21);
        is(0, "end", -1);
        is(0, "end", Integer.MIN_VALUE);
        is(0, "end", Integer.MAX_VALUE);
        is(20, "count", 7);
        is(1, "end", 20);
        is(1, "end", 7);
        is(7, "count", 7);
        is(0, "end", 8);
        is(27, "feed", 0, 0, 0, 0, 0);
    }

    private void p04Game() {
        fresh(FORK, 6);
        is(0, "count", 7);
        is(0, "hold", 0, 1);
        Caller.tell(c.x, "max q");
        is(-1005, "game");
        is(0, "count", 7);
        is(1, "node", 0, 3);
        is(1, "count", 6);
        is(0, "undo");
        is(0, "hold", 0, 1);
        due.is("another game", c.read(PAIR), 3);
        is(0, "count", 6);
        is(-1, "undo");
        due.is("an empty game", c.read(""), 0);
        is(0, "count", 0);
        due.is("blanks", c.read(" ".repeat(400)), 0);
        due.is("more bytes", c.read(" ".repeat(401)), -1400);
        due.is("more bytes", c.read("!".repeat(440)), -1400);
    }

    private void p05Fault() {
        c = new Caller();
        String[] texts = {"mix a;", "end g 10;", "max a;max a;", "end a 1;end b 1;end c 1;end d 1;end e 1;", "max a;"};
        for (int k = 0; k < texts.length; k++) {
            c.read(texts[k]);
            is(k + 1, "fault");
            Caller.tell(c.x, "x");
            is(k + 1, "fault");
            is(1, "end", 0);
        }
        due.is("no fault", c.read(PAIR), 3);
        is(0, "fault");
        due.is("a fault", c.read("max"), -1003);
        is(1, "image", 0);
        is(1, "restore", 0);
        is(1, "fault");
    }

    private void p06Node() {
        fresh(FORK, 6);
        int[][] rows = {{1, -1, 2, -1}, {2, -1, 2, -1}, {3, -1, 3, -1}, {0, 9, 0, -1}, {0, 2, 0, -1}, {0, 0, 0, -1}};
        for (int p = 0; p < 6; p++) {
            for (int what = 0; what < 4; what++) {
                is(rows[p][what], "node", p, what);
            }
            is(THROWS, "node", p, 4);
            is(THROWS, "node", p, -1);
        }
        is(0, "hold", 1, 1);
        is(1, "node", 1, 3);
        is(THROWS, "node", 6, 0);
        for (int odd : ODD) {
            is(THROWS, "node", odd, 0);
            is(THROWS, "node", 0, odd);
        }
    }

    private void p07Way() {
        fresh(FORK, 6);
        is(1, "way", 0, 0, 0);
        is(1, "way", 0, 0, 1);
        is(2, "way", 0, 1, 0);
        is(4, "way", 1, 1, 0);
        is(3, "way", 2, 0, 0);
        is(2, "way", 2, 0, 1);
        is(0, "way", 2, 2, 0);
        is(1, "way", 2, 2, 1);
        is(THROWS, "way", 0, 2, 0);
        is(THROWS, "way", 3, 0, 0);
        is(THROWS, "way", 6, 0, 0);
        is(THROWS, "way", 0, 0, 2);
        for (int odd : ODD) {
            is(THROWS, "way", odd, 0, 0);
            is(THROWS, "way", 0, odd, 0);
            is(THROWS, "way", 0, 0, odd);
        }
    }

    private void p08Worth() {
        fresh(FORK, 6);
        int[] worth = {6, 2, 6, 9, 2, 0};
        for (int p = 0; p < 6; p++) {
            fraction(worth[p], 1, "worth", p);
        }
        is(THROWS, "worth", 6, 0);
        for (int odd : ODD) {
            is(THROWS, "worth", odd, 0);
        }
        fresh(ROUND, 3);
        fraction(0, 1, "worth", 0);
        fraction(0, 1, "worth", 1);
        fraction(5, 1, "worth", 2);
        is(0, "hold", 1, 1);
        fraction(5, 1, "worth", 0);
        fresh("chance a;chance b;end g 1;end z 0;way a a;way a b 3;way b a;way b g;way b z 2;", 4);
        // a = b, b = (a + 1) / 4
        fraction(1, 3, "worth", 0);
        fraction(1, 3, "worth", 1);
        is(0, "weigh", 1, 2, 1);
        fraction(1, 2, "worth", 0);
    }

    private void p09Best() {
        fresh(FORK, 6);
        is(1, "best", 0);
        is(1, "best", 1);
        is(-1, "best", 2);
        is(-1, "best", 3);
        is(-1, "best", 6);
        for (int odd : ODD) {
            is(-1, "best", odd);
        }
        is(0, "hold", 0, 0);
        is(0, "best", 0);
        fresh(PAIR, 3);
        is(0, "best", 0);
        is(1, "best", 1);
        is(0, "hold", 1, 0);
        is(1, "best", 0);
        is(0, "best", 1);
        fresh(ROUND, 3);
        is(0, "best", 0);
        is(0, "best", 1);
        // both ways of the last are worth as much, but by the first one MIN can go round
        fresh("min m;max a;end g 3;end h 4;way m a;way m h;way a m;way a g;", 4);
        fraction(3, 1, "worth", 0);
        is(0, "best", 0);
        is(1, "best", 1);
    }

    private void p10Good() {
        fresh(FORK, 6);
        is(2, "good", 0);
        is(2, "good", 1);
        is(-1, "good", 2);
        is(-1, "good", 3);
        is(-1, "good", 6);
        for (int odd : ODD) {
            is(-1, "good", odd);
        }
        is(0, "hold", 0, 0);
        is(1, "good", 0);
        fresh(PAIR, 3);
        is(3, "good", 0);
        is(3, "good", 1);
        is(0, "hold", 1, 0);
        is(2, "good", 0);
        is(1, "good", 1);
        fresh(ROUND, 3);
        is(3, "good", 0);
        is(1, "good", 1);
        fresh("min m;end g 3;end h 3;end i 4;way m g;way m i;way m h;", 4);
        is(5, "good", 0);
    }

    private void p11Tried() {
        fresh(FORK, 6);
        is(0, "tried", 0);
        is(-1, "tried", 1);
        is(-1, "tried", 2);
        is(-1, "tried", 3);
        is(-1, "tried", 6);
        for (int odd : ODD) {
            is(-1, "tried", odd);
        }
        is(1, "improve");
        is(1, "tried", 0);
        is(0, "hold", 1, 0);
        is(0, "tried", 0);
        is(0, "hold", 0, 1);
        is(1, "tried", 0);
    }

    private void p12Left() {
        fresh(FORK, 6);
        fraction(2, 1, "left", 0);
        fraction(2, 1, "left", 1);
        fraction(5, 1, "left", 2);
        fraction(9, 1, "left", 3);
        fraction(0, 1, "left", 5);
        is(THROWS, "left", 6, 0);
        for (int odd : ODD) {
            is(THROWS, "left", odd, 0);
        }
        is(1, "improve");
        fraction(6, 1, "left", 0);
        is(0, "weigh", 2, 0, 1);
        // c = (9 + 0 + 2) / 3
        fraction(11, 3, "left", 2);
        fresh(PAIR, 3);
        fraction(0, 1, "left", 0);
        // MIN does not take g while it can go round by the plan that is tried
        fresh("max a;min b;end g 5;way a b;way a g;way b g;way b a;", 3);
        fraction(0, 1, "left", 0);
        fraction(0, 1, "left", 1);
        is(0, "hold", 1, 0);
        fraction(5, 1, "left", 0);
    }

    private void p13Improve() {
        fresh(PAIR, 3);
        is(2, "improve");
        is(1, "tried", 0);
        is(1, "tried", 1);
        is(0, "improve");
        fresh(PAIR, 3);
        is(0, "hold", 0, 0);
        is(1, "improve");
        is(0, "tried", 0);
        is(1, "tried", 1);
        // of like ones the first, and none that only is as much
        fresh("max a;end g 2;end h 7;end i 7;way a g;way a h;way a i;", 4);
        is(1, "improve");
        is(1, "tried", 0);
        fresh("max a;end g 7;end h 7;way a h;way a g;", 3);
        is(0, "improve");
        is(0, "tried", 0);
    }

    private void p14ImproveAll() {
        fresh(PAIR, 3);
        is(1, "improveAll");
        is(0, "improveAll");
        fresh("max a;max b;chance c;end h 8;end g 2;way a b;way a g;way b a;way b c;way c h;way c a;", 5);
        is(2, "improveAll");
        is(0, "tried", 0);
        is(1, "tried", 1);
        is(8, "left", 0, 0);
        is(0, "improve");
    }

    private void p15Hold() {
        fresh(FORK, 6);
        is(0, "hold", 0, 0);
        is(1, "hold", 0, 0);
        is(0, "node", 0, 3);
        fraction(2, 1, "worth", 0);
        fraction(5, 1, "worth", 2);
        is(0, "hold", 0, 1);
        is(1, "node", 0, 3);
        is(0, "hold", 1, 0);
        fraction(9, 1, "worth", 1);
        is(3, "count", 6);
        is(-1, "hold", 2, 0);
        is(-1, "hold", 3, 0);
        is(-1, "hold", 0, 2);
        is(-1, "hold", 6, 0);
        for (int odd : ODD) {
            is(-1, "hold", odd, 0);
            is(-1, "hold", 0, odd);
        }
    }

    private void p16Free() {
        fresh(FORK, 6);
        is(1, "free", 0);
        is(0, "hold", 0, 0);
        is(0, "free", 0);
        is(-1, "node", 0, 3);
        fraction(6, 1, "worth", 0);
        is(1, "free", 0);
        is(1, "free", 2);
        is(1, "free", 3);
        is(-1, "free", 6);
        for (int odd : ODD) {
            is(-1, "free", odd);
        }
        is(1, "undo");
    }

    private void p17Weigh() {
        fresh(FORK, 6);
        is(1, "weigh", 2, 0, 2);
        is(2, "weigh", 2, 0, 3);
        is(2, "weigh", 2, 1, 2);
        is(0, "weigh", 2, 0, 1);
        is(1, "way", 2, 0, 1);
        is(0, "weigh", 2, 2, 2);
        is(2, "way", 2, 2, 1);
        is(-1, "weigh", 2, 0, 0);
        is(-1, "weigh", 2, 0, 4);
        is(-1, "weigh", 2, 3, 1);
        is(-1, "weigh", 0, 0, 1);
        is(-1, "weigh", 3, 0, 1);
        is(-1, "weigh", 6, 0, 1);
        for (int odd : ODD) {
            is(-1, "weigh", odd, 0, 1);
            is(-1, "weigh", 2, odd, 1);
            is(-1, "weigh", 2, 0, odd);
        }
    }

    private void p18Pay() {
        fresh(FORK, 6);
        is(1, "pay", 3, 9);
        is(0, "pay", 4, 9);
        is(9, "node", 4, 1);
        fraction(9, 1, "worth", 1);
        is(0, "pay", 4, 0);
        is(-1, "pay", 4, 10);
        is(-1, "pay", 4, -1);
        is(-1, "pay", 0, 1);
        is(-1, "pay", 2, 1);
        is(-1, "pay", 6, 1);
        for (int odd : ODD) {
            is(-1, "pay", odd, 1);
            is(-1, "pay", 3, odd);
        }
    }

    private void p19Stopped() {
        fresh(FORK, 6);
        // by 2: c = (18 + s) / 8, s = c / 2, t = 1
        fraction(6, 5, "stopped", 0, 2);
        fraction(1, 1, "stopped", 1, 2);
        fraction(12, 5, "stopped", 2, 2);
        fraction(9, 1, "stopped", 3, 2);
        fraction(0, 1, "stopped", 5, 2);
        // by 5: c = (18 + s) / 5, s = 4 c / 5, t = 8 / 5
        fraction(24, 7, "stopped", 0, 5);
        fraction(8, 5, "stopped", 1, 5);
        fraction(30, 7, "stopped", 2, 5);
        is(0, "pay", 4, 9);
        fraction(36, 5, "stopped", 1, 5);
        is(THROWS, "stopped", 0, 1, 0);
        is(THROWS, "stopped", 0, 6, 0);
        is(THROWS, "stopped", 6, 2, 0);
        for (int odd : ODD) {
            is(THROWS, "stopped", odd, 2, 0);
            is(THROWS, "stopped", 0, odd, 0);
        }
        // the shorter way is the better one now
        fresh("max a;max b;end g 5;way a b;way a g;way b g;", 3);
        fraction(15, 4, "stopped", 0, 4);
        fresh("min a;max b;end g 5;way a g;way a b;way b g;", 3);
        fraction(45, 16, "stopped", 0, 4);
    }

    private void p20Within() {
        fresh(FORK, 6);
        fraction(0, 1, "within", 0, 0);
        fraction(9, 1, "within", 3, 0);
        fraction(0, 1, "within", 0, 1);
        fraction(2, 1, "within", 1, 1);
        fraction(9, 2, "within", 2, 1);
        fraction(9, 2, "within", 0, 2);
        fraction(9, 2, "within", 2, 2);
        fraction(45, 8, "within", 2, 3);
        fraction(9, 2, "within", 0, 3);
        fraction(45, 8, "within", 0, 4);
        fraction(2, 1, "within", 1, 8);
        is(0, "hold", 0, 0);
        fraction(2, 1, "within", 0, 8);
        is(THROWS, "within", 0, 9, 0);
        is(THROWS, "within", 0, -1, 0);
        is(THROWS, "within", 6, 1, 0);
        for (int odd : ODD) {
            is(THROWS, "within", odd, 1, 0);
            is(THROWS, "within", 0, odd, 0);
        }
        fresh("chance a;end g 1;way a g;way a a 2;", 2);
        fraction(6561 - 256, 6561, "within", 0, 8);
    }

    private void p21Forced() {
        fresh(FORK, 6);
        is(0, "forced", 1, 0);
        is(8, "forced", 1, 8);
        is(27, "forced", 1, 24);
        is(18, "forced", 2, 16);
        is(26, "forced", 2, 24);
        is(58, "forced", 2, 56);
        is(63, "forced", 1, 63);
        is(0, "hold", 0, 0);
        is(27, "forced", 2, 24);
        is(-1, "forced", 0, 1);
        is(-1, "forced", 3, 1);
        is(-1, "forced", 1, 64);
        is(-1, "forced", 1, -1);
        for (int odd : ODD) {
            is(-1, "forced", odd, 0);
            is(-1, "forced", 1, odd);
        }
        fresh(PAIR, 3);
        is(4, "forced", 2, 4);
        is(7, "forced", 1, 4);
    }

    private void p22p23Rings() {
        fresh(TWO_RINGS, 5);
        is(2, "rings");
        is(6, "ring", 0);
        is(8, "ring", 1);
        is(-1, "ring", 2);
        is(-1, "ring", -1);
        for (int odd : ODD) {
            is(-1, "ring", odd);
        }
        fresh(FORK, 6);
        is(0, "rings");
        is(-1, "ring", 0);
        fresh(ROUND, 3);
        is(1, "rings");
        is(3, "ring", 0);
        is(0, "hold", 1, 1);
        is(0, "rings");
        // chance that leads out is in no ring
        fresh("chance a;chance b;end g 1;way a b;way b a 3;way b g;", 3);
        is(0, "rings");
        fresh("chance a;chance b;way a b;way b a 3;way b b;", 2);
        is(1, "rings");
        is(3, "ring", 0);
    }

    private void p24Moves() {
        fresh(FORK, 6);
        fraction(8, 3, "moves", 0);
        fraction(1, 1, "moves", 1);
        fraction(5, 3, "moves", 2);
        fraction(0, 1, "moves", 3);
        is(THROWS, "moves", 6, 0);
        for (int odd : ODD) {
            is(THROWS, "moves", odd, 0);
        }
        fresh(TWO_RINGS, 5);
        for (int p = 0; p < 4; p++) {
            is(THROWS, "moves", p, 0);
            is(THROWS, "moves", p, 1);
        }
        fraction(0, 1, "moves", 4);
    }

    private void p25Sets() {
        fresh(FORK, 6);
        is(32, "sets", 0, 0);
        is(27, "sets", 1, 0);
        is(27, "sets", 1, -77);
        int[] soon = {2, 1, 1, 0, 0, -1};
        for (int p = 0; p < 6; p++) {
            is(soon[p], "sets", 2, p);
        }
        is(-1, "sets", 2, 6);
        is(-1, "sets", 3, 0);
        for (int odd : ODD) {
            is(-1, "sets", 2, odd);
            is(-1, "sets", odd, 0);
        }
        is(0, "hold", 0, 1);
        is(26, "sets", 1, 0);
        fresh(ROUND, 3);
        is(3, "sets", 0, 0);
        is(4, "sets", 1, 0);
        is(2, "sets", 2, 0);
        is(0, "hold", 1, 0);
        is(-1, "sets", 2, 0);
        // chance that comes back for ever is as good as certain, chance that may lose is not
        fresh("chance a;max b;end g 1;end z 0;way a b;way a g;way b a;way b z;", 4);
        is(7, "sets", 1, 0);
        is(0, "pay", 3, 2);
        is(15, "sets", 1, 0);
        fresh("chance a;min b;end g 1;end z 0;way a b;way a g;way b a;way b z;", 4);
        is(4, "sets", 1, 0);
        is(10, "sets", 0, 0);
    }

    private void p26Rank() {
        fresh(FORK, 6);
        int[] order = {3, 0, 2, 1, 4, 5};
        for (int i = 0; i < 6; i++) {
            is(order[i], "rank", i);
        }
        is(-1, "rank", 6);
        for (int odd : ODD) {
            is(-1, "rank", odd);
        }
        is(0, "pay", 5, 9);
        is(0, "rank", 0);
        is(2, "rank", 1);
        is(3, "rank", 2);
        is(5, "rank", 3);
    }

    private static String told(int... numbers) {
        StringBuilder s = new StringBuilder();
        for (int n : numbers) {
            s.append((char) n);
        }
        return s.toString();
    }

    private void p27Above() {
        fresh(FORK, 6);
        above(-1, 6, 1, 2, 1, 6, 1, 9, 1, 2, 1, 0, 1);
        above(-1, 12, 2, 4, 2, 18, 3, 117, 13, 2, 1, 0, 127);
        above(0, 5, 1, 2, 1, 6, 1, 9, 1, 2, 1, 0, 1);
        above(0, 119, 20, 2, 1, 6, 1, 9, 1, 2, 1, 0, 1);
        above(1, 6, 1, 19, 10, 6, 1, 9, 1, 2, 1, 0, 1);
        above(2, 6, 1, 2, 1, 59, 10, 9, 1, 2, 1, 0, 1);
        above(3, 7, 1, 2, 1, 7, 1, 89, 10, 2, 1, 0, 1);
        above(-1, 9, 1, 9, 1, 9, 1, 9, 1, 9, 1, 9, 1);
        above(-2, 6, 1, 2, 1, 6, 1, 9, 1, 2, 1);
        above(-2, 6, 1, 2, 1, 6, 1, 9, 1, 2, 1, 0, 1, 0);
        above(-2, 6, 1, 2, 1, 6, 1, 9, 1, 2, 1, 0, 0);
        above(-2, 6, 1, 2, 1, 6, 1, 9, 1, 2, 1, 0, 128);
        above(-2, 1, 1, 2, 1, 6, 1, 9, 1, 2, 1, 128, 1);
        above(-2, 6, 0, 2, 1, 6, 1, 9, 1, 2, 1, 0, 1);
        above(-2, 128, 1, 2, 1, 6, 1, 9, 1, 2, 1, 0, 1);
        above(-1, 127, 1, 127, 1, 127, 1, 127, 1, 127, 1, 127, 1);
        is(0, "hold", 0, 0);
        above(-1, 2, 1, 2, 1, 5, 1, 9, 1, 2, 1, 0, 1);
        is(0, "hold", 1, 0);
        above(1, 2, 1, 2, 1, 5, 1, 9, 1, 2, 1, 0, 1);
        // 127 by 127 and numbers just below it
        fresh("chance a;chance b;chance c;chance d;way a b;way a c;way a d 2;way b b;way c c;way d d;", 4);
        above(-1, 126, 127, 126, 127, 126, 127, 126, 127);
        above(0, 125, 126, 126, 127, 126, 127, 126, 127);
    }

    private void above(int answer, int... numbers) {
        Caller.tell(c.x, told(numbers));
        is(answer, "above");
        is(0, "count", 7);
    }

    private void below(int answer, int... numbers) {
        Caller.tell(c.x, told(numbers));
        is(answer, "below");
        is(0, "count", 7);
    }

    private void p28Below() {
        fresh(FORK, 6);
        below(-1, 2, 1, 2, 1, 5, 1, 9, 1, 2, 1, 0, 1);
        below(-1, 0, 1, 0, 1, 0, 1, 0, 1, 0, 1, 0, 1);
        below(0, 3, 1, 3, 1, 5, 1, 9, 1, 2, 1, 0, 1);
        below(1, 2, 1, 21, 10, 5, 1, 9, 1, 2, 1, 0, 1);
        below(5, 2, 1, 2, 1, 5, 1, 9, 1, 2, 1, 1, 127);
        below(-2, 2, 1, 2, 1, 5, 1, 9, 1, 2, 1, 0, 0);
        below(-2, 3, 1, 2, 1, 5, 1, 9, 1, 2, 1, 128, 1);
        below(-2, 3, 1, 2, 1, 5, 1, 9, 1, 2, 1, 1, 128);
        below(-2);
        below(-2, 3, 1, 2, 1, 5, 1, 9, 1, 2, 1, 0, 1, 0, 1);
        is(1, "improve");
        below(-1, 6, 1, 2, 1, 6, 1, 9, 1, 2, 1, 0, 1);
        below(2, 6, 1, 2, 1, 61, 10, 9, 1, 2, 1, 0, 1);
        is(1, "tried", 0);
    }

    private void p29Play() {
        fresh(FORK, 6);
        // seed 0: 12345 >>> 8 is 48, the draw 0; seed 1: 1103527590 >>> 8 is 4310654, the draw 2
        is(2, "play", 2, 0, 0);
        is(3, "play", 2, 0, 1);
        is(5, "play", 2, 1, 1);
        is(2, "play", 0, 1, 1);
        is(5, "play", 0, 1, 2);
        is(5, "play", 0, 1, 60);
        is(4, "play", 1, 7, 1);
        is(3, "play", 3, 7, 60);
        is(-1, "play", 0, 1, 61);
        is(-1, "play", 0, 1, -1);
        is(-1, "play", 6, 1, 1);
        for (int odd : ODD) {
            is(-1, "play", odd, 1, 1);
            is(-1, "play", 0, 1, odd);
        }
        fresh(ROUND, 3);
        is(0, "play", 0, 5, 60);
        is(1, "play", 0, 5, 59);
    }

    private void p30Often() {
        fresh(FORK, 6);
        is(9, "often", 2, 0, 1, 0);
        is(0, "often", 2, 1, 1, 0);
        is(1, "often", 2, 1, 1, 1);
        is(9, "often", 2, 0, 2, 0);
        is(2, "often", 2, 0, 2, 1);
        is(60, "often", 1, 0, 30, 0);
        // seeds wrap
        long sum = c.call("often", 0, Integer.MAX_VALUE, 1, 0) + c.call("often", 0, Integer.MIN_VALUE, 1, 0);
        is(sum, "often", 0, Integer.MAX_VALUE, 2, 0);
        is(-1, "often", 0, 1, 0, 0);
        is(-1, "often", 0, 1, 31, 0);
        is(-1, "often", 0, 1, 1, 2);
        is(-1, "often", 6, 1, 1, 0);
        for (int odd : ODD) {
            is(-1, "often", odd, 1, 1, 0);
            is(-1, "often", 0, 1, odd, 0);
            is(-1, "often", 0, 1, 1, odd);
        }
        fresh(ROUND, 3);
        is(0, "often", 0, 3, 30, 0);
        is(0, "often", 0, 3, 30, 1);
        is(30, "often", 2, 3, 30, 1);
    }

    private void p31p32Text() {
        c = new Caller();
        is(-1, "byteAt", 0);
        due.is("fork", c.read(FORK), 6);
        is(-1, "byteAt", 0);
        is(FORK_TOLD.length(), "text");
        for (int i = 0; i < FORK_TOLD.length(); i++) {
            is(FORK_TOLD.charAt(i), "byteAt", i);
        }
        is(-1, "byteAt", FORK_TOLD.length());
        for (int odd : ODD) {
            if (odd != 99) {
                is(-1, "byteAt", odd);
            }
        }
        is(0, "pay", 3, 8);
        is(0, "weigh", 2, 0, 1);
        is(0, "hold", 0, 0);
        is('9', "byteAt", FORK_TOLD.indexOf('9'));
        is(FORK_TOLD.length(), "text");
        is('8', "byteAt", FORK_TOLD.indexOf('9'));
        is('1', "byteAt", FORK_TOLD.indexOf("way c hi 2") + 9);
        due.is("an empty game", c.read(""), 0);
        is('m', "byteAt", 0);
        is(0, "text");
        is(-1, "byteAt", 0);
        String names = "max abcdef;chance zzzzzz;end azaz 7;way abcdef zzzzzz;way zzzzzz azaz 3;way zzzzzz abcdef 1;";
        due.is(names, c.read("  max abcdef ; chance zzzzzz;end   azaz 07;way zzzzzz azaz 03; way abcdef zzzzzz;way zzzzzz abcdef;"), 3);
        is(names.length(), "text");
        for (int i = 0; i < names.length(); i++) {
            is(names.charAt(i), "byteAt", i);
        }
    }

    private void p33Undo() {
        fresh(FORK, 6);
        is(-1, "undo");
        is(0, "hold", 0, 0);
        is(0, "hold", 0, 1);
        is(0, "free", 0);
        is(0, "weigh", 2, 0, 1);
        is(0, "pay", 3, 4);
        is(1, "pay", 3, 4);
        is(2, "weigh", 2, 0, 3);
        is(-1, "hold", 3, 0);
        is(4, "undo");
        is(9, "node", 3, 1);
        is(3, "undo");
        is(2, "way", 2, 0, 1);
        is(2, "undo");
        is(1, "node", 0, 3);
        is(1, "undo");
        is(0, "node", 0, 3);
        is(0, "undo");
        is(-1, "node", 0, 3);
        is(-1, "undo");
        for (int n = 0; n < 9; n++) {
            is(0, "pay", 4, n == 2 ? 9 : n);
        }
        is(7, "undo");
        for (int left = 6; left >= 0; left--) {
            is(left, "undo");
        }
        is(-1, "undo");
        is(0, "node", 4, 1);
        undoOfNineKinds();
        is(0, "pay", 4, 1);
        due.is("a fault", c.read("max"), -1003);
        is(0, "undo");
        is(0, "pay", 4, 1);
        due.is("a game", c.read(FORK), 6);
        is(-1, "undo");
    }

    /** Of nine changes of all kinds the first one is forgotten. */
    private void undoOfNineKinds() {
        is(9, "node", 3, 1);
        String[] changes = {"pay 3 1", "hold 0 0", "weigh 2 0 1", "pay 5 5", "hold 1 1", "weigh 2 2 2", "free 0", "hold 1 0", "pay 4 4"};
        for (String change : changes) {
            due.is(change, said(change), 0);
        }
        int[][] behind = {{4, 1, 0}, {1, 3, 1}, {0, 3, 0}, {2, 2, 1}, {1, 3, -1}, {5, 1, 0}, {2, 0, 2}, {0, 3, -1}};
        for (int k = 0; k < 8; k++) {
            is(7 - k, "undo");
            int[] b = behind[k];
            if (b[0] == 2) {
                is(b[2], "way", 2, b[1], 1);
            } else {
                is(b[2], "node", b[0], b[1]);
            }
        }
        is(-1, "undo");
        is(1, "node", 3, 1);
        for (int p = 0; p < 2; p++) {
            is(1, "way", p, 0, 1);
            is(1, "way", p, 1, 1);
        }
    }

    private void p34p35Images() {
        fresh(FORK, 6);
        is(0, "image", 2);
        is(0, "image", -1);
        is(0, "restore", 2);
        is(0, "restore", -1);
        is(0, "restore", 0);
        is(0, "hold", 0, 0);
        is(1, "image", 0);
        is(0, "restore", 1);
        is(0, "pay", 3, 1);
        is(0, "weigh", 2, 0, 1);
        is(0, "free", 0);
        Caller.tell(c.x, "abc");
        is(1, "restore", 0);
        is(3, "count", 7);
        is(-1, "undo");
        is(9, "node", 3, 1);
        is(2, "way", 2, 0, 1);
        is(0, "node", 0, 3);
        fraction(2, 1, "worth", 0);
        is(0, "pay", 3, 1);
        is(1, "restore", 0);
        is(9, "node", 3, 1);
        is(1, "end", 0);
        due.is("another", c.read(PAIR), 3);
        is(1, "image", 1);
        is(1, "restore", 0);
        is(6, "count", 0);
        is(1, "restore", 1);
        is(3, "count", 0);
        fraction(5, 1, "worth", 0);
        is(PAIR.length(), "text");
        for (int odd : ODD) {
            is(0, "image", odd);
            is(0, "restore", odd);
        }
        c = new Caller();
        is(1, "image", 0);
        due.is("another", c.read(PAIR), 3);
        is(1, "restore", 0);
        is(0, "count", 0);
    }

    private void p36Count() {
        fresh(FORK, 6);
        int[] counts = {6, 1, 1, 1, 3, 7, 0, 0};
        for (int what = 0; what < 8; what++) {
            is(counts[what], "count", what);
        }
        is(-1, "count", 8);
        for (int odd : ODD) {
            is(-1, "count", odd);
        }
        is(0, "hold", 1, 0);
        is(2, "count", 6);
        is(0, "hold", 0, 0);
        is(3, "count", 6);
        is(20, "feed", 0, 0, 0, 0, 0);
        is(20, "count", 7);
    }

    /** The plan that is tried is anew behind what did anything, and stays behind what did nothing. */
    private void triedAnew() {
        String[] nothing = {"hold 0 2", "hold 1 1", "free 2", "weigh 2 0 2", "weigh 2 0 3", "pay 3 9", "restore 1", "game", "image 0"};
        String[] something = {"hold 1 0", "free 1", "weigh 2 0 1", "pay 3 8", "undo", "restore 0"};
        fresh(FORK, 6);
        is(0, "hold", 1, 1);
        is(1, "image", 0);
        is(1, "free", 0);
        is(1, "improve");
        for (String call : nothing) {
            c.x.feed(-1, 0, 0, 0, 0);
            said(call);
            due.is("tried behind " + call, c.call("tried", 0), 1);
            is(1, "end", 0);
        }
        for (String call : something) {
            fresh(FORK, 6);
            is(0, "hold", 1, 1);
            is(1, "image", 0);
            is(1, "improve");
            is(1, "tried", 0);
            said(call);
            due.is("tried behind " + call, c.call("tried", 0), 0);
        }
        due.is("improve", c.call("improve"), 1);
        due.is("a game", c.read(FORK), 6);
        is(0, "tried", 0);
    }

    private long said(String call) {
        String[] words = call.split(" ");
        int[] a = new int[words.length - 1];
        for (int i = 0; i < a.length; i++) {
            a[i] = Integer.parseInt(words[i + 1]);
        }
        return c.call(words[0], a);
    }
}
