import java.io.IOException;

/** Promises 1 to 36, sentence by sentence: what each names too small, too large, empty, full, wrapping, refused. */
public final class PromiseSentencesTest {
    /** s 0, t 1, c 2, hi 3, lo 4, no 5: worth 6, 2, 6, 9, 2, 0. */
    private static final String FORK = "max s;min t;chance c;end hi 9;end lo 2;end no 0;"
        + "way s t;way s c;way t hi;way t lo;way c hi 2;way c no;way c s;";
    private static final String FORK_TOLD = FORK.replace("no;", "no 1;").replace("c s;", "c s 1;");
    /** a 0 and b 1 can pass play to each other for ever, or take g 2. */
    private static final String PAIR = "max a;max b;end g 5;way a b;way a g;way b a;way b g;";
    /** From b 1 MIN goes back to a 0, as long as it can. */
    private static final String ROUND = "max a;min b;end g 5;way a b;way a a;way b a;way b g;";
    private static final String TWO_RINGS = "chance w;min u;max v;max x;end g 4;"
        + "way w u;way w x;way w g 2;way u v;way v u;way x x;";
    private static final String FORK_WORTH = "6/1 2/1 6/1 9/1 2/1 0/1";
    private static final String FORK_LEFT = "2/1 2/1 5/1 9/1 2/1 0/1";

    private final Sentences s;

    private PromiseSentencesTest() throws IOException {
        s = new Sentences("PromiseSentencesTest");
    }

    public static void main(String[] args) throws IOException {
        new PromiseSentencesTest().run();
    }

    private void run() {
        newObject();
        feed();
        end();
        game();
        fault();
        node();
        way();
        worth();
        best();
        good();
        tried();
        left();
        improve();
        improveAll();
        hold();
        free();
        weigh();
        pay();
        stopped();
        within();
        forced();
        rings();
        moves();
        sets();
        rank();
        above();
        below();
        play();
        often();
        text();
        undo();
        image();
        restore();
        count();
        s.finish();
    }

    private void newObject() {
        s.section("Promise 1: A new object");
        s.says("A GAME without NODES; an empty tape.");
        s.fresh();
        s.is("count 0 = 0; count 1 = 0; count 2 = 0; count 3 = 0; count 4 = 0; count 5 = 0; count 6 = 0; count 7 = 0");
        s.is("node 0 0 = !; way 0 0 0 = !; worth 0 0 = !; left 0 0 = !; stopped 0 2 0 = !; within 0 0 0 = !; moves 0 0 = !");
        s.is("best 0 = NONE; good 0 = NONE; tried 0 = NONE; improve = 0; improveAll = 0; hold 0 0 = NONE; free 0 = NONE");
        s.is("weigh 0 0 1 = NONE; pay 0 1 = NONE; forced 1 0 = 0; forced 2 0 = 0; forced 1 1 = NONE; rings = 0; ring 0 = NONE");
        s.is("sets 0 0 = 0; sets 1 0 = 0; sets 2 0 = NONE; rank 0 = NONE; play 0 0 0 = NONE; often 0 0 1 0 = NONE");
        s.is("above = NONE; below = NONE; byteAt 0 = NONE; text = 0; byteAt 0 = NONE; undo = NONE; restore 0 = false");
        s.is("end 1 = false; end 0 = true; game = 0; fault = 0");
    }

    // ---------------------------------------------------------------- the tape and the game

    private void feed() {
        s.section("Promise 2: feed");
        s.says("Twenty bytes come behind the tape, of each number the highest first: how many it has;");
        s.fresh();
        // e n d _ | b y t e | _ 9 ; m | a x _ q | ; w a y and behind it: _ q _ q ;
        s.is("feed 0x656e6420 0x62797465 0x20393b6d 0x61782071 0x3b776179 = 20");
        s.is("feed 0x20712071 0x3b000000 -1 -1 -1 = 40; end 25 = true; game = 2; node 0 1 = 9; way 1 0 0 = 1");
        // what comes behind a tape that was cut off stands where it was cut: max q; way q q;
        s.is("feed 0x6d617820 0x713b2121 -1 -1 -1 = 20; end 6 = true; feed 0x77617920 0x7120713b 0x80ff0000 0 0 = 26");
        s.is("end 14 = true; game = 1; feed 0x6d617820 0xf13b7761 0x7920f120 0xf13b0000 0 = 20; end 14 = true; game = -1004");

        s.says("NONE, and none come, if it would have more than 440.");
        s.fresh();
        for (int k = 1; k <= 22; k++) {
            s.is("feed 538976288 538976288 538976288 538976288 538976288 = " + 20 * k);
        }
        s.is("feed 0 0 0 0 0 = NONE; count 7 = 440; end 441 = false");
        s.is("end 439 = true; feed 0 0 0 0 0 = NONE; count 7 = 439; end 421 = true; feed 0 0 0 0 0 = NONE; count 7 = 421");
        s.is("end 422 = false; end 420 = true; feed 0 0 0 0 0 = 440; count 7 = 440");
        // what was refused is not there later
        s.is("end 400 = true; game = 0; fault = 0");
    }

    private void end() {
        s.section("Promise 3: end");
        s.says("The tape has its first n bytes alone: true;");
        s.fresh();
        s.is("end 0 = true");
        s.tape("max q;way q q;?????!");
        s.is("end 20 = true; count 7 = 20; end 14 = true; count 7 = 14");
        s.tape("end g 7;??");
        s.is("end 22 = true; game = 2; node 1 1 = 7");
        s.tape("max a;");
        s.is("end 0 = true; count 7 = 0; game = 0");

        s.says("false, if it has not so many, or n is below 0.");
        s.fresh();
        s.is("end 1 = false; end ? = false");
        s.tape("end g 7;");
        s.is("end 9 = false; end 440 = false; end 441 = false; end -1 = false; end -2147483648 = false; end 2147483647 = false");
        s.is("count 7 = 8; game = 1; end 8 = false; end 1 = false");
    }

    private void game() {
        s.section("Promise 4: game");
        s.says("The tape (empty then, with a FAULT, too, here and below) is the GAME now");
        s.game(FORK);
        s.is("count 7 = 0; count 0 = 6");
        s.tape("max q");
        s.is("game = -1005; count 7 = 0");
        s.tape(" ".repeat(440));
        s.is("game = -1400; count 7 = 0");
        s.reads(PAIR);
        s.is("count 0 = 3; worth 0 = 5/1; count 7 = 0");
        for (String told : new String[] {"5/1 5/1 5/1", "5/1 5/1 4/1", "5/1 5/1", "5/1 5/0 5/1"}) {
            s.fractions(told);
            s.answer("above");
            s.is("count 7 = 0");
            s.fractions(told);
            s.answer("below");
            s.is("count 7 = 0");
        }
        s.is("game = 0; count 0 = 0");

        s.says("(nothing is HELD, nothing can be undone): how many NODES;");
        s.game(FORK);
        s.is("hold 0 1 = 0; pay 3 1 = 0; count 6 = 1");
        s.reads(FORK);
        s.is("count 0 = 6; count 6 = 0; node 0 3 = NONE; node 3 1 = 9; undo = NONE; node 3 1 = 9");
        s.tape("end g 1;");
        s.is("game = 1");
        s.tape("end w 1;end x 1;end y 1;end z 1;max a;max b;max c;max d;max e;max f;max g;max h;"
            + "way a b;way b a;way c a;way d a;way e a;way f a;way g a;way h a;");
        s.is("game = 12; count 0 = 12; game = 0; count 0 = 0");

        s.says("-1000 less the place of a FAULT: it stays.");
        s.game(FORK);
        s.is("hold 0 1 = 0; pay 3 1 = 0");
        s.tape("!");
        s.is("game = -1000; fault = 1; count 0 = 6; count 6 = 1; node 3 1 = 1; node 0 3 = 1");
        s.tape("max a;max b;way a a;");
        s.is("game = -1020; fault = 5; count 0 = 6; undo = 1; node 3 1 = 9; undo = 0; node 0 3 = NONE");
        s.tape(" ".repeat(401));
        s.is("game = -1400; fault = 1; count 0 = 6");
        s.tells(FORK_TOLD);
    }

    private void fault() {
        s.section("Promise 5: fault");
        s.says("The kind of the FAULT of the latest game();");
        s.fresh();
        s.fault(1, "|mix a;");
        s.fault(2, "end g |10;");
        s.fault(3, "max a;max |a;");
        s.fault(4, "end a 1;end b 1;end c 1;end d 1;|end e 1;");
        s.fault(5, "max a;|");
        s.tape("!");
        s.is("fault = 5; image 0 = true; restore 0 = true; fault = 5; text = 0; fault = 5; above = -2; fault = 5; end 0 = true");

        s.says("0 without one and ahead of any.");
        s.reads("end g 1;");
        s.is("fault = 0");
        s.fault(1, "|!");
        s.is("fault = 1; game = 0; fault = 0");
        s.fresh();
        s.is("fault = 0");
        s.tape("!");
        s.is("fault = 0; below = -2; fault = 0");
    }

    private void node() {
        s.section("Promise 6: node");
        s.says("Of a NODE: 0 its kind (0 END, 1 MAX, 2 MIN, 3 CHANCE), 1 PAY (NONE: no END), 2 how many WAYS,"
            + " 3 the WAY that is HELD (NONE).");
        s.game(FORK);
        s.is("node 0 0 = 1; node 1 0 = 2; node 2 0 = 3; node 3 0 = 0; node 4 0 = 0; node 5 0 = 0");
        s.is("node 0 1 = NONE; node 1 1 = NONE; node 2 1 = NONE; node 3 1 = 9; node 4 1 = 2; node 5 1 = 0");
        s.is("node 0 2 = 2; node 1 2 = 2; node 2 2 = 3; node 3 2 = 0; node 5 2 = 0");
        s.is("node 0 3 = NONE; node 1 3 = NONE; node 2 3 = NONE; node 3 3 = NONE");
        s.is("hold 0 0 = 0; hold 1 1 = 0; node 0 3 = 0; node 1 3 = 1; node 0 2 = 2; free 0 = 0; node 0 3 = NONE");

        s.says("NoSuchElementException: no such ones.");
        s.is("node 6 0 = !; node 11 0 = !; node 12 0 = !; node ? 0 = !; node 0 4 = !; node 0 -1 = !; node 0 ? = !; node ? ? = !");
    }

    private void way() {
        s.section("Promise 7: way");
        s.says("Of WAY i of a NODE: the NODE it leads to (0), its WEIGHT (1).");
        s.game(FORK);
        s.is("way 0 0 0 = 1; way 0 1 0 = 2; way 1 0 0 = 3; way 1 1 0 = 4; way 2 0 0 = 3; way 2 1 0 = 5; way 2 2 0 = 0");
        s.is("way 0 0 1 = 1; way 1 1 1 = 1; way 2 0 1 = 2; way 2 1 1 = 1; way 2 2 1 = 1; weigh 2 0 1 = 0; way 2 0 1 = 1");
        s.is("hold 0 1 = 0; way 0 0 0 = 1");

        s.says("NoSuchElementException: no such ones.");
        s.is("way 0 2 0 = !; way 2 3 0 = !; way 0 -1 0 = !; way 3 0 0 = !; way 6 0 0 = !; way 0 0 2 = !; way 0 0 -1 = !");
        s.is("way ? 0 0 = !; way 0 ? 0 = !; way 0 0 ? = !");
    }

    // ---------------------------------------------------------------- worth and plans

    private void worth() {
        s.section("Promise 8: worth");
        s.says("WORTH.");
        s.game(FORK);
        s.is("worth 0 = 6/1; worth 1 = 2/1; worth 2 = 6/1; worth 3 = 9/1; worth 4 = 2/1; worth 5 = 0/1");
        s.is("weigh 2 0 1 = 0; worth 0 = 9/2; worth 2 = 9/2; pay 4 5 = 0; worth 0 = 5/1; worth 2 = 14/3; undo = 1; worth 0 = 9/2");

        s.says("NoSuchElementException: no such ones.");
        s.is("worth 6 0 = !; worth -1 0 = !; worth 0 2 = !; worth 0 -1 = !; worth ? 0 = !; worth 0 ? = !");
    }

    private void best() {
        s.section("Promise 9: best");
        s.says("The WAY of a MAX or MIN NODE in that player's BEST PLAN;");
        s.game(FORK);
        s.is("best 0 = 1; best 1 = 1; pay 4 9 = 0; best 0 = 0; best 1 = 0; hold 1 1 = 0; best 1 = 1");
        s.game(PAIR);
        s.is("best 0 = 0; best 1 = 1; hold 1 0 = 0; best 0 = 1; best 1 = 0");

        s.says("NONE: another NODE, no such one.");
        s.game(FORK);
        s.is("best 2 = NONE; best 3 = NONE; best 5 = NONE; best 6 = NONE; best -1 = NONE; best ? = NONE");
    }

    private void good() {
        s.section("Promise 10: good");
        s.says("WAYS of a MAX or MIN NODE that can be taken, and by which all WORTH stays, were it HELD"
            + " (bits; where one is HELD, that alone);");
        s.game(FORK);
        s.is("good 0 = 2; good 1 = 2; hold 0 0 = 0; good 0 = 1; hold 1 0 = 0; good 1 = 1");
        s.game(PAIR);
        s.is("good 0 = 3; good 1 = 3; hold 1 0 = 0; good 0 = 2; good 1 = 1; worth 1 = 5/1");
        s.game(ROUND);
        s.is("good 0 = 3; good 1 = 1");
        s.game("max a;min b;end g 3;end h 3;end i 3;way a g;way a h;way a i;way b g;way b h;way b i;");
        s.is("good 0 = 7; good 1 = 7; pay 3 4 = 0; good 0 = 2; good 1 = 5; pay 3 2 = 0; good 0 = 5; good 1 = 2");
        // by way 0 the worth of a would stay only if chance led out somewhere
        s.game("max a;chance c;end g 4;way a c;way a g;way c a;way c g;way c a;");
        s.is("good 0 = 3");
        s.game("max a;chance c;end g 4;way a c;way a g;way c a;way c a;");
        s.is("good 0 = 2");

        s.says("NONE: another NODE, no such one.");
        s.game(FORK);
        s.is("good 2 = NONE; good 3 = NONE; good 5 = NONE; good 6 = NONE; good -1 = NONE; good ? = NONE");
    }

    private void tried() {
        s.section("Promise 11: tried");
        s.says("The WAY of a MAX NODE in the PLAN that is TRIED;");
        s.game(FORK);
        s.is("tried 0 = 0; improve = 1; tried 0 = 1; improve = 0; tried 0 = 1; hold 0 0 = 0; tried 0 = 0; hold 0 1 = 0; tried 0 = 1");

        s.says("NONE: another NODE, no such one.");
        s.is("tried 1 = NONE; tried 2 = NONE; tried 3 = NONE; tried 6 = NONE; tried -1 = NONE; tried ? = NONE");
    }

    private void left() {
        s.section("Promise 12: left");
        s.says("LEFT.");
        s.game(FORK);
        s.is("left 0 = 2/1; left 2 = 5/1; improve = 1; left 0 = 6/1; left 1 = 2/1; left 2 = 6/1; weigh 2 0 1 = 0; left 2 = 11/3");
        s.is("improveAll = 1; left 2 = 9/2; undo = 0; left 0 = 2/1; left 2 = 5/1");

        s.says("NoSuchElementException: no such ones.");
        s.is("left 6 0 = !; left -1 0 = !; left 0 2 = !; left 0 -1 = !; left ? 0 = !; left 0 ? = !");
    }

    private void improve() {
        s.section("Promise 13: improve");
        s.says("IMPROVED once: how many NODES took another WAY.");
        s.fresh();
        s.is("improve = 0");
        s.game(PAIR);
        s.is("improve = 2; tried 0 = 1; tried 1 = 1; improve = 0; tried 0 = 1; hold 0 0 = 0; improve = 1; tried 1 = 1");
        s.game("max a;max b;max c;max d;max e;max f;max g;max h;end x 5;end y 6;way a x;way a y;way b x;way b y;way c x;way c y;"
            + "way d x;way d y;way e x;way e y;way f x;way f y;way g x;way g y;way h x;way h y;");
        s.is("improve = 8; improve = 0; tried 7 = 1");
        // once is no more than once: a would gain again
        s.game("max a;max b;chance c;end h 8;end g 2;way a b;way a g;way b a;way b c;way c h;way c a;");
        s.is("improve = 2; tried 0 = 1; tried 1 = 1; left 0 = 2/1; left 1 = 5/1; improve = 1; tried 0 = 0; left 0 = 8/1; improve = 0");
    }

    private void improveAll() {
        s.section("Promise 14: improveAll");
        s.says("IMPROVED till nothing is done: how often any was.");
        s.fresh();
        s.is("improveAll = 0");
        s.game(PAIR);
        s.is("improveAll = 1; tried 0 = 1; tried 1 = 1; improveAll = 0; improve = 0");
        s.game("max a;max b;chance c;end h 8;end g 2;way a b;way a g;way b a;way b c;way c h;way c a;");
        s.is("improveAll = 2; tried 0 = 0; tried 1 = 1; left 0 = 8/1; improve = 0; improveAll = 0");
        s.is("pay 3 7 = 0; improve = 2; improveAll = 1; left 0 = 7/1");
        s.is("hold 0 0 = 0; hold 1 0 = 0; improveAll = 0");
    }

    // ---------------------------------------------------------------- changes

    private void hold() {
        s.section("Promise 15: hold");
        s.says("WAY i of a MAX or MIN NODE is HELD: 0;");
        s.game(FORK);
        s.is("hold 0 0 = 0; node 0 3 = 0; worth 0 = 2/1; hold 0 1 = 0; node 0 3 = 1; worth 0 = 6/1; hold 1 0 = 0; worth 1 = 9/1");
        s.is("count 6 = 3; undo = 2; undo = 1; node 0 3 = 0");

        s.says("1: it is;");
        s.game(FORK);
        s.is("hold 0 1 = 0; hold 0 1 = 1; node 0 3 = 1; undo = 0; undo = NONE; hold 0 1 = 0; hold 0 0 = 0; hold 0 0 = 1");

        s.says("NONE: no such ones.");
        s.game(FORK);
        s.is("hold 2 0 = NONE; hold 3 0 = NONE; hold 0 2 = NONE; hold 0 -1 = NONE; hold 6 0 = NONE; hold -1 0 = NONE");
        s.is("hold ? 0 = NONE; hold 0 ? = NONE; hold 1 ? = NONE; count 6 = 0; undo = NONE; worth 0 = 6/1");
    }

    private void free() {
        s.section("Promise 16: free");
        s.says("None is HELD from a NODE: 0;");
        s.game(FORK);
        s.is("hold 0 0 = 0; hold 1 0 = 0; free 0 = 0; node 0 3 = NONE; node 1 3 = 0; count 6 = 2; free 1 = 0; worth 0 = 6/1");
        s.is("undo = 3; node 1 3 = 0");

        s.says("1: none was;");
        s.game(FORK);
        s.is("free 0 = 1; free 1 = 1; free 2 = 1; free 3 = 1; hold 0 0 = 0; free 0 = 0; free 0 = 1; free 1 = 1; undo = 1");

        s.says("NONE: no such one.");
        s.game(FORK);
        s.is("free 6 = NONE; free -1 = NONE; free ? = NONE; undo = NONE");
    }

    private void weigh() {
        s.section("Promise 17: weigh");
        s.says("WAY i of a CHANCE NODE has another WEIGHT (1 to 3): 0;");
        s.game(FORK);
        s.is("weigh 2 0 1 = 0; way 2 0 1 = 1; way 2 1 1 = 1; worth 2 = 9/2; weigh 2 2 2 = 0; way 2 2 1 = 2; undo = 1; way 2 2 1 = 1");
        s.game("chance a;end g 3;end z 0;way a g;way a z;");
        s.is("weigh 0 0 3 = 0; worth 0 = 9/4; weigh 0 0 2 = 0; worth 0 = 2/1; weigh 0 0 1 = 0; worth 0 = 3/2");

        s.says("1: it has that;");
        s.game(FORK);
        s.is("weigh 2 0 2 = 1; weigh 2 1 1 = 1; weigh 2 2 1 = 1; undo = NONE; weigh 2 0 1 = 0; weigh 2 0 1 = 1; undo = 0");

        s.says("2: WEIGHTS would be above 4;");
        s.game(FORK);
        s.is("weigh 2 0 3 = 2; weigh 2 1 2 = 2; weigh 2 2 3 = 2; way 2 0 1 = 2; way 2 1 1 = 1; undo = NONE; worth 2 = 6/1");
        s.is("weigh 2 0 1 = 0; weigh 2 1 3 = 2; weigh 2 1 2 = 0; weigh 2 0 2 = 2");
        s.game("chance a;end g 3;way a g 3;way a g 1;");
        s.is("weigh 0 1 2 = 2; weigh 0 1 3 = 2; weigh 0 0 2 = 0; weigh 0 1 3 = 2; weigh 0 1 2 = 0");

        s.says("NONE: no such ones.");
        s.game(FORK);
        s.is("weigh 2 0 0 = NONE; weigh 2 0 4 = NONE; weigh 2 3 1 = NONE; weigh 2 -1 1 = NONE; weigh 0 0 1 = NONE");
        s.is("weigh 1 0 2 = NONE; weigh 3 0 1 = NONE; weigh 6 0 1 = NONE; weigh ? 0 1 = NONE; weigh 2 ? 1 = NONE; weigh 2 0 ? = NONE");
        s.is("undo = NONE; way 2 0 1 = 2; way 0 0 1 = 1");
    }

    private void pay() {
        s.section("Promise 18: pay");
        s.says("An END has another PAY (0 to 9): 0;");
        s.game(FORK);
        s.is("pay 4 9 = 0; node 4 1 = 9; worth 1 = 9/1; pay 4 0 = 0; node 4 1 = 0; worth 1 = 0/1; undo = 1; node 4 1 = 9");

        s.says("1: it has that;");
        s.game(FORK);
        s.is("pay 3 9 = 1; pay 4 2 = 1; pay 5 0 = 1; undo = NONE; pay 3 8 = 0; pay 3 8 = 1; undo = 0");

        s.says("NONE: no such ones.");
        s.game(FORK);
        s.is("pay 3 10 = NONE; pay 3 -1 = NONE; pay 0 1 = NONE; pay 1 1 = NONE; pay 2 1 = NONE; pay 6 1 = NONE; pay -1 1 = NONE");
        s.is("pay ? 1 = NONE; pay 3 ? = NONE; node 3 1 = 9; undo = NONE");
    }

    // ---------------------------------------------------------------- other worths and sets

    private void stopped() {
        s.section("Promise 19: stopped");
        s.says("STOPPED by q.");
        s.game(FORK);
        // by 2: c = (18 + s) / 8, s = c / 2; by 5: c = (18 + s) / 5, s = 4 c / 5
        s.is("stopped 0 2 = 6/5; stopped 1 2 = 1/1; stopped 2 2 = 12/5; stopped 3 2 = 9/1; stopped 5 2 = 0/1");
        s.is("stopped 0 5 = 24/7; stopped 1 5 = 8/5; stopped 2 5 = 30/7; stopped 0 2 = 6/5");
        s.is("pay 4 9 = 0; stopped 1 5 = 36/5; hold 0 0 = 0; stopped 0 5 = 144/25; undo = 1; undo = 0; stopped 0 5 = 24/7");

        s.says("NoSuchElementException: no such ones.");
        s.is("stopped 0 1 0 = !; stopped 0 6 0 = !; stopped 6 2 0 = !; stopped -1 2 0 = !; stopped 0 2 2 = !; stopped 0 2 -1 = !");
        s.is("stopped ? 2 0 = !; stopped 0 ? 0 = !; stopped 0 2 ? = !; stopped 0 0 0 = !; stopped 3 6 0 = !");
    }

    private void within() {
        s.section("Promise 20: within");
        s.says("WORTH, if PLAY is over when k moves (0 to 8) were made and it is at no END, and pays 0 then.");
        s.game(FORK);
        s.is("within 0 0 = 0/1; within 1 0 = 0/1; within 2 0 = 0/1; within 3 0 = 9/1; within 5 0 = 0/1");
        s.is("within 0 1 = 0/1; within 1 1 = 2/1; within 2 1 = 9/2; within 3 1 = 9/1; within 0 2 = 9/2; within 2 3 = 45/8");
        s.is("within 0 4 = 45/8; within 3 8 = 9/1; hold 0 0 = 0; within 0 8 = 2/1; within 0 2 = 2/1");
        // in each of 8 moves of 3 that chance comes to g in one
        s.game("chance a;end g 1;way a g;way a a 2;");
        s.is("within 0 8 = 6305/6561; within 0 1 = 1/3");
        s.game("max a;max b;max c;max d;max e;max f;max g;max h;end i 7;"
            + "way a b;way b c;way c d;way d e;way e f;way f g;way g h;way h i;");
        s.is("within 0 8 = 7/1; within 0 7 = 0/1; within 1 7 = 7/1");
        // MIN waits, where that is all it needs
        s.game("min a;max b;end g 5;way a g;way a b;way b g;");
        s.is("within 0 1 = 0/1; within 0 2 = 5/1; worth 0 = 5/1");

        s.says("NoSuchElementException: no such ones.");
        s.is("within 0 9 0 = !; within 0 -1 0 = !; within 3 0 0 = !; within -1 0 0 = !; within 0 0 2 = !; within 0 0 -1 = !");
        s.is("within ? 0 0 = !; within 0 ? 0 = !; within 0 0 ? = !");
    }

    private void forced() {
        s.section("Promise 21: forced");
        s.says("NODES (bits) from which a player (1 MAX, 2 MIN) can bring PLAY into a set of NODES (bits; those in it, too),"
            + " whatever the other one does and whichever ways chance goes;");
        s.game(FORK);
        s.is("forced 1 0 = 0; forced 2 0 = 0; forced 1 63 = 63; forced 2 63 = 63; forced 1 8 = 8; forced 2 8 = 10");
        s.is("forced 1 16 = 16; forced 2 16 = 18; forced 1 24 = 27; forced 2 24 = 26; forced 1 2 = 3; forced 2 2 = 2");
        s.is("forced 1 40 = 40; forced 1 4 = 5; forced 2 4 = 4; forced 1 41 = 45; forced 2 41 = 47");
        s.is("hold 0 0 = 0; forced 2 24 = 27; forced 1 4 = 4; forced 1 41 = 45");
        s.game(PAIR);
        s.is("forced 1 4 = 7; forced 2 4 = 4; forced 2 3 = 3");
        // chance may come back for ever, so it is not forced out
        s.game("chance a;end g 1;way a a;way a g;");
        s.is("forced 1 2 = 2; forced 2 2 = 2; forced 1 3 = 3");

        s.says("NONE: no such ones.");
        s.game(FORK);
        s.is("forced 0 1 = NONE; forced 3 1 = NONE; forced -1 1 = NONE; forced ? 1 = NONE; forced 1 64 = NONE; forced 1 65 = NONE");
        s.is("forced 1 -1 = NONE; forced 2 -64 = NONE; forced 1 -2147483648 = NONE; forced 1 2147483647 = NONE");
        s.is("forced 0 0 = NONE; forced 2 64 = NONE");
    }

    private void rings() {
        s.section("Promise 22: rings");
        s.says("RINGS: how many.");
        s.game(TWO_RINGS);
        s.is("rings = 2; rings = 2");
        s.game(FORK);
        s.is("rings = 0");
        s.game(ROUND);
        s.is("rings = 1; hold 1 1 = 0; rings = 0; undo = 0; rings = 1");

        s.section("Promise 23: ring");
        s.says("The i-th (from 0) as bits;");
        s.game(TWO_RINGS);
        s.is("ring 0 = 6; ring 1 = 8");
        s.game(ROUND);
        s.is("ring 0 = 3; hold 0 1 = 0; ring 0 = 1");

        s.says("NONE: no such one.");
        s.game(TWO_RINGS);
        s.is("ring 2 = NONE; ring -1 = NONE; ring 11 = NONE; ring 12 = NONE; ring ? = NONE");
        s.game(FORK);
        s.is("ring 0 = NONE");
        // what was a ring before is none now
        s.game(ROUND);
        s.is("ring 0 = 3; hold 1 1 = 0; ring 0 = NONE");
    }

    private void moves() {
        s.section("Promise 24: moves");
        s.says("LONG.");
        s.game(FORK);
        s.is("moves 0 = 8/3; moves 1 = 1/1; moves 2 = 5/3; moves 3 = 0/1; moves 5 = 0/1; hold 0 0 = 0; moves 0 = 2/1; moves 2 = 3/2");

        s.says("NoSuchElementException: NEVER, no such ones.");
        s.is("moves 6 0 = !; moves -1 0 = !; moves 0 2 = !; moves 0 -1 = !; moves ? 0 = !; moves 0 ? = !");
        s.game(TWO_RINGS);
        s.is("moves 0 0 = !; moves 0 1 = !; moves 1 0 = !; moves 2 1 = !; moves 3 0 = !; moves 4 = 0/1");
        s.game(ROUND);
        s.is("moves 0 0 = !; hold 1 1 = 0; moves 0 = 2/1; free 1 = 0; moves 0 0 = !");
    }

    private void sets() {
        s.section("Promise 25: sets");
        s.says("What 0: TRAP, 1: SURE, both as bits (p is of no matter),");
        s.game(FORK);
        s.is("sets 0 0 = 32; sets 1 0 = 27; sets 0 5 = 32; sets 1 5 = 27; sets 0 6 = 32; sets 1 6 = 27; sets 0 ? = 32; sets 1 ? = 27");

        s.says("2: SOON of NODE p (NONE: it can't be, no such NODE).");
        s.is("sets 2 0 = 2; sets 2 1 = 1; sets 2 3 = 0; sets 2 5 = NONE; sets 2 6 = NONE; sets 2 -1 = NONE; sets 2 ? = NONE");

        s.says("NONE for others.");
        s.is("sets 3 0 = NONE; sets -1 0 = NONE; sets ? 0 = NONE");
    }

    private void rank() {
        s.section("Promise 26: rank");
        s.says("RANKS: the i-th NODE (from 0);");
        s.game(FORK);
        s.is("rank 0 = 3; rank 1 = 0; rank 2 = 2; rank 3 = 1; rank 4 = 4; rank 5 = 5");
        s.is("pay 5 9 = 0; rank 0 = 0; rank 1 = 2; rank 2 = 3; rank 3 = 5; rank 4 = 1; rank 5 = 4");

        s.says("NONE: no such one.");
        s.is("rank 6 = NONE; rank -1 = NONE; rank 11 = NONE; rank ? = NONE");
    }

    private void above() {
        s.section("Promise 27: above");
        s.says("The tape tells a fraction for each NODE by two bytes (above 0 to 127, below 1 to 127): NONE: it proves from ABOVE;");
        s.game(FORK);
        above(FORK_WORTH, "NONE");
        above("12/2 4/2 18/3 117/13 2/1 0/127", "NONE");
        above("127/1 127/1 127/1 127/1 127/1 127/1", "NONE");
        s.is("hold 0 0 = 0");
        above(FORK_LEFT, "NONE");
        s.fresh();
        s.is("above = NONE");

        s.says("else the first NODE by which it does not;");
        s.game(FORK);
        above("5/1 2/1 6/1 9/1 2/1 0/1", "0");
        above("4/1 1/1 5/1 8/1 1/1 0/1", "0");
        above("5/1 1/1 5/1 8/1 1/1 0/1", "2");
        above("6/1 19/10 6/1 9/1 2/1 0/1", "1");
        above("6/1 2/1 59/10 9/1 2/1 0/1", "2");
        above("7/1 2/1 7/1 89/10 2/1 0/1", "3");
        above("6/1 2/1 6/1 9/1 1/1 0/1", "4");
        s.is("pay 5 1 = 0");
        above("7/1 2/1 7/1 9/1 2/1 0/1", "5");

        s.says("-2: it does not tell so.");
        s.game(FORK);
        notTold("above");
        above(FORK_WORTH, "NONE");
    }

    private void above(String told, String answer) {
        s.fractions(told);
        s.is("above = " + answer + "; count 7 = 0");
    }

    /** Too few bytes, too many, an odd one, numbers that can't be: here the sixth node's, or the first one's. */
    private void notTold(String call) {
        s.is(call + " = -2");
        String[] wrong = {"6/1 2/1 6/1 9/1 2/1", "6/1 2/1 6/1 9/1 2/1 0/1 0/1", "6/1 2/1 6/1 9/1 2/1 0/0", "6/1 2/1 6/1 9/1 2/1 0/128",
            "6/1 2/1 6/1 9/1 2/1 0/255", "6/1 2/1 6/1 9/1 2/1 128/1", "6/1 2/1 6/1 9/1 2/1 255/1", "6/0 2/1 6/1 9/1 2/1 0/1",
            "128/1 2/1 6/1 9/1 2/1 0/1", "0/1 0/1 0/1 0/1 0/1 0/128", "127/1 127/1 127/1 127/1 127/1 127/0"};
        for (String told : wrong) {
            s.fractions(told);
            s.is(call + " = -2; count 7 = 0");
        }
        s.fractions(FORK_WORTH);
        s.is("end 11 = true; " + call + " = -2; count 7 = 0");
        s.fractions(FORK_WORTH);
        s.tape(" ");
        s.is("count 7 = 13; " + call + " = -2; count 7 = 0");
    }

    private void below() {
        s.section("Promise 28: below");
        s.says("It tells likewise: NONE: no NODE has less LEFT by the PLAN that is TRIED;");
        s.game(FORK);
        below(FORK_LEFT, "NONE");
        below("0/1 0/1 0/1 0/1 0/1 0/1", "NONE");
        below("126/63 127/64 127/26 117/13 2/1 0/127", "NONE");
        s.is("weigh 2 0 1 = 0");
        below("2/1 2/1 11/3 9/1 2/1 0/1", "NONE");
        below("2/1 2/1 121/33 9/1 2/1 0/1", "NONE");
        s.is("undo = 0; improve = 1");
        below(FORK_WORTH, "NONE");
        s.fresh();
        s.is("below = NONE");

        s.says("else the first that has;");
        s.game(FORK);
        below(FORK_WORTH, "0");
        below("2/1 127/63 6/1 9/1 2/1 0/1", "1");
        below("2/1 2/1 51/10 10/1 2/1 0/1", "2");
        below("2/1 2/1 5/1 127/14 3/1 1/1", "3");
        below("2/1 2/1 5/1 9/1 3/1 1/1", "4");
        below("2/1 2/1 5/1 9/1 2/1 1/127", "5");
        s.is("weigh 2 0 1 = 0");
        below("2/1 2/1 37/10 9/1 2/1 0/1", "2");
        below("2/1 2/1 122/33 9/1 2/1 0/1", "2");
        s.is("undo = 0; improve = 1");
        below("6/1 2/1 61/10 9/1 2/1 0/1", "2");

        s.says("-2.");
        s.game(FORK);
        notTold("below");
        below(FORK_LEFT, "NONE");
    }

    private void below(String told, String answer) {
        s.fractions(told);
        s.is("below = " + answer + "; count 7 = 0");
    }

    // ---------------------------------------------------------------- plays, texts, undoing, images, counts

    private void play() {
        s.section("Promise 29: play");
        s.says("Where a PLAY by draws from a NODE is behind n moves (0 to 60; at an END it stays there);");
        s.game(FORK);
        // by seed 0 the first draw of 4 is 0, by seed 1 it is 2
        s.is("play 0 0 0 = 0; play 2 0 0 = 2; play 2 0 1 = 3; play 2 1 1 = 5; play 0 1 1 = 2; play 0 1 2 = 5; play 0 1 3 = 5");
        s.is("play 0 1 60 = 5; play 1 0 1 = 4; play 1 0 60 = 4; play 3 0 0 = 3; play 3 0 1 = 3; play 3 0 60 = 3");
        s.game(ROUND);
        s.is("play 0 0 59 = 1; play 0 0 60 = 0; play 1 -5 60 = 1; play 2 7 60 = 2");

        s.says("NONE: no such ones.");
        s.is("play 0 0 61 = NONE; play 0 0 -1 = NONE; play 3 0 0 = NONE; play -1 0 0 = NONE; play ? 0 0 = NONE; play 2 0 61 = NONE");
        s.is("play 0 0 2147483647 = NONE; play 0 0 -2147483648 = NONE; play 2 0 -1 = NONE");
    }

    private void often() {
        s.section("Promise 30: often");
        s.says("Of n (1 to 30) PLAYS by draws from a NODE, by seeds x, x and 1, .., as for play() of 60 moves: 0 all they pay"
            + " together, 1 how many are at an END.");
        s.game(FORK);
        s.is("often 2 0 1 0 = 9; often 2 1 1 0 = 0; often 2 0 2 0 = 9; often 2 0 2 1 = 2; often 1 5 30 0 = 60; often 1 5 30 1 = 30");
        for (int seed : new int[] {0, -15, Integer.MAX_VALUE, Integer.MAX_VALUE - 10, Integer.MIN_VALUE}) {
            sumOfPlays(0, seed, 30);
            sumOfPlays(2, seed, 7);
        }
        s.game(TWO_RINGS);
        for (int seed : new int[] {3, Integer.MAX_VALUE - 29, Integer.MAX_VALUE - 28}) {
            sumOfPlays(0, seed, 30);
        }
        s.game(ROUND);
        s.is("often 0 0 30 0 = 0; often 0 0 30 1 = 0; often 2 0 30 0 = 150; often 2 0 30 1 = 30; often 2 0 1 0 = 5");
        // by seed 11 the 60th move comes to g, by seed 60 the 61st would
        s.game("chance a;chance b;chance c;end g 7;way a a 3;way a b;way b a 3;way b c;way c a 3;way c g;");
        s.is("play 0 11 59 = 2; play 0 11 60 = 3; often 0 11 1 0 = 7; often 0 11 1 1 = 1");
        s.is("play 0 60 60 = 2; often 0 60 1 0 = 0; often 0 60 1 1 = 0");
        sumOfPlays(0, 0, 30);
        sumOfPlays(0, 100, 30);

        s.says("NONE: no such ones.");
        s.game(FORK);
        s.is("often 0 0 0 0 = NONE; often 0 0 31 0 = NONE; often 0 0 -1 0 = NONE; often 0 0 1 2 = NONE; often 0 0 1 -1 = NONE");
        s.is("often 6 0 1 0 = NONE; often -1 0 1 0 = NONE; often ? 0 1 0 = NONE; often 0 0 1 ? = NONE; often 0 0 2147483647 0 = NONE");
        s.is("often 0 0 -2147483648 1 = NONE; often 0 0 99 0 = NONE");
    }

    /** What often() tells is what single plays come to, where seeds go on past the greatest int, too. */
    private void sumOfPlays(int p, int seed, int n) {
        long paid = 0;
        long ended = 0;
        for (int k = 0; k < n; k++) {
            int last = (int) s.answer("play", p, seed + k, 60);
            if (s.answer("node", last, 0) == 0) {
                ended++;
                paid += s.answer("node", last, 1);
            }
        }
        s.same("paid by " + n + " from " + seed, s.answer("often", p, seed, n, 0), paid);
        s.same("ended of " + n + " from " + seed, s.answer("often", p, seed, n, 1), ended);
    }

    private void text() {
        s.section("Promise 31: text");
        s.says("The GAME is told back: NODE by NODE its kind, a blank, its NAME (END: a blank, its PAY) and ;, then NODE by NODE its"
            + " WAYS: way, a blank, the NAME, a blank, that of the NODE it leads to (CHANCE: a blank, the WEIGHT) and ; : how many bytes"
            + " (what is HELD is not told).");
        s.fresh();
        s.tells("");
        s.reads(FORK);
        s.tells(FORK_TOLD);
        s.is("hold 0 0 = 0; hold 1 1 = 0");
        s.tells(FORK_TOLD);
        s.is("pay 3 0 = 0; weigh 2 0 1 = 0");
        s.tells(FORK_TOLD.replace("hi 9", "hi 0").replace("hi 2", "hi 1"));
        s.reads("  max abcdef ; chance zzzzzz;end   azaz 07;way zzzzzz azaz 03; way abcdef zzzzzz;way zzzzzz abcdef;min n;way n n;");
        s.tells("max abcdef;chance zzzzzz;end azaz 7;min n;way abcdef zzzzzz;way zzzzzz azaz 3;way zzzzzz abcdef 1;way n n;");
        // a game of 400 bytes is told by more than these, if its ways tell no weights
        String full = fullOfChance();
        s.same("bytes of it", full.length(), 400);
        s.reads(full);
        s.is("text = 422");
        s.tells(full.trim().replaceAll("(way \\w+ \\w+);", "$1 1;"));

        s.section("Promise 32: byteAt");
        s.says("Byte i of the latest text();");
        s.game(FORK);
        s.is("text = " + FORK_TOLD.length() + "; byteAt 0 = 109; byteAt 1 = 97; byteAt 3 = 32; byteAt 5 = 59; byteAt 28 = 57");
        s.is("byteAt " + (FORK_TOLD.length() - 1) + " = 59; pay 3 8 = 0; byteAt 28 = 57");
        s.reads("");
        s.is("byteAt 28 = 57; text = 0; byteAt 0 = NONE");

        s.says("NONE: none such, or ahead of any.");
        s.fresh();
        s.is("byteAt 0 = NONE");
        s.reads(FORK);
        s.is("byteAt 0 = NONE; byteAt -1 = NONE; text = " + FORK_TOLD.length() + "; byteAt " + FORK_TOLD.length() + " = NONE");
        s.is("byteAt -1 = NONE; byteAt 700 = NONE; byteAt 701 = NONE; byteAt 2147483647 = NONE; byteAt -2147483648 = NONE");
        // a shorter text leaves nothing of a longer one
        s.reads("end g 1;");
        s.is("text = 8; byteAt 7 = 59; byteAt 8 = NONE");
    }

    /** Fifteen ways, none of which tells its weight. */
    private static String fullOfChance() {
        StringBuilder text = new StringBuilder();
        for (char c = 'a'; c <= 'i'; c++) {
            String name = String.valueOf(c).repeat(6);
            text.append(c <= 'e' ? "chance " + name + ";" : "end " + name + " 3;");
        }
        for (int k = 0; k < 15; k++) {
            text.append("way ").append(String.valueOf((char) ('a' + k / 3)).repeat(6)).append(" eeeeee;");
        }
        return text + " ".repeat(400 - text.length());
    }

    private void undo() {
        s.section("Promise 33: undo");
        s.says("The latest hold(), free(), weigh(), pay() that was 0 is undone: how many more can be (8 at most are kept);");
        s.game(FORK);
        s.is("hold 0 0 = 0; hold 0 1 = 0; free 0 = 0; weigh 2 0 1 = 0; pay 3 4 = 0");
        s.is("pay 3 4 = 1; weigh 2 0 1 = 1; weigh 2 0 4 = NONE; hold 3 0 = NONE; free 0 = 1; weigh 2 1 3 = 2; pay 0 0 = NONE");
        s.is("undo = 4; node 3 1 = 9; undo = 3; way 2 0 1 = 2; undo = 2; node 0 3 = 1; undo = 1; node 0 3 = 0; undo = 0; node 0 3 = NONE");
        // eight are undone, not nine: the first change stays
        s.game(FORK);
        s.is("pay 4 9 = 0; pay 4 8 = 0; pay 4 7 = 0; pay 4 6 = 0; pay 4 5 = 0; pay 4 4 = 0; pay 4 3 = 0; pay 4 1 = 0; undo = 7; pay 4 1 = 0");
        s.is("pay 4 0 = 0; undo = 7; undo = 6; undo = 5; undo = 4; undo = 3; undo = 2; undo = 1; undo = 0; undo = NONE; node 4 1 = 9");
        // kinds are kept apart when the oldest is forgotten
        s.game(FORK);
        s.is("pay 3 1 = 0; hold 0 0 = 0; weigh 2 0 1 = 0; pay 5 5 = 0; hold 1 1 = 0; weigh 2 2 2 = 0; free 0 = 0; hold 1 0 = 0; pay 4 4 = 0");
        s.is("undo = 7; node 4 1 = 2; undo = 6; node 1 3 = 1; undo = 5; node 0 3 = 0; undo = 4; way 2 2 1 = 1; undo = 3; node 1 3 = NONE");
        s.is("undo = 2; node 5 1 = 0; undo = 1; way 2 0 1 = 2; undo = 0; node 0 3 = NONE; undo = NONE; node 3 1 = 1");

        s.says("NONE: none is.");
        s.fresh();
        s.is("undo = NONE");
        s.game(FORK);
        s.is("undo = NONE; pay 3 1 = 0; undo = 0; undo = NONE; undo = NONE; node 3 1 = 9; worth 0 = 6/1");
    }

    private void image() {
        s.section("Promise 34: image");
        s.says("The GAME with what is HELD is kept in place k (0, 1): true;");
        s.game(FORK);
        s.is("hold 0 0 = 0; image 0 = true; free 0 = 0; pay 3 1 = 0; weigh 2 0 1 = 0; image 1 = true; node 3 1 = 1; undo = 3");
        s.is("restore 0 = true; node 0 3 = 0; node 3 1 = 9; way 2 0 1 = 2; restore 1 = true; node 0 3 = NONE; node 3 1 = 1; way 2 0 1 = 1");
        // what is done later changes nothing in the image
        s.is("pay 3 2 = 0; hold 1 0 = 0; restore 1 = true; node 3 1 = 1; node 1 3 = NONE; restore 0 = true; image 1 = true; pay 3 3 = 0");
        s.is("restore 1 = true; node 3 1 = 9; node 0 3 = 0");

        s.says("false: no such one.");
        s.game(FORK);
        s.is("image 2 = false; image -1 = false; image ? = false; restore 0 = false; restore 1 = false");
    }

    private void restore() {
        s.section("Promise 35: restore");
        s.says("It is as kept in place k (the tape, FAULT stay; nothing can be undone): true;");
        s.game(FORK);
        s.is("hold 0 0 = 0; image 0 = true; text = " + FORK_TOLD.length());
        s.fault(2, "end g |10;");
        s.tape("abc");
        s.is("pay 3 1 = 0; restore 0 = true; count 7 = 3; fault = 2; undo = NONE; node 3 1 = 9; node 0 3 = 0; worth 0 = 2/1");
        s.is("byteAt 0 = 109; end 0 = true");
        s.reads(PAIR);
        s.is("image 1 = true; restore 0 = true; count 0 = 6; fault = 0; restore 1 = true; count 0 = 3; worth 0 = 5/1; left 0 = 0/1");
        s.tells(PAIR);
        // an empty game can be kept, too
        s.fresh();
        s.is("image 0 = true");
        s.reads(PAIR);
        s.is("restore 0 = true; count 0 = 0; worth 0 0 = !; restore 1 = false");

        s.says("false: no such one, or nothing is kept there.");
        s.game(FORK);
        s.is("restore 0 = false; restore 1 = false; image 1 = true; pay 3 1 = 0; restore 0 = false; restore 2 = false; restore -1 = false");
        s.is("restore ? = false; node 3 1 = 1; undo = 0; node 3 1 = 9");
    }

    private void count() {
        s.section("Promise 36: count");
        s.says("0 NODES, 1 MAX ones, 2 MIN ones, 3 CHANCE, 4 ENDS, 5 WAYS, 6 NODES from which one is HELD, as bits,"
            + " 7 bytes of the tape.");
        s.game("max a;min b;max c;chance d;end e 1;max f;min g;end h 2;way a b;way a c;way b a;way c d;way d e;way d h;way f f;way g h;");
        s.is("count 0 = 8; count 1 = 3; count 2 = 2; count 3 = 1; count 4 = 2; count 5 = 8; count 6 = 0; count 7 = 0");
        s.is("hold 1 0 = 0; hold 5 0 = 0; hold 6 0 = 0; count 6 = 98; count 5 = 8; free 5 = 0; count 6 = 66; feed 0 0 0 0 0 = 20");
        s.is("count 7 = 20; end 19 = true; count 7 = 19; game = -1000; count 7 = 0; count 6 = 66");

        s.says("NONE for another what.");
        s.is("count 8 = NONE; count -1 = NONE; count ? = NONE");
    }
}
