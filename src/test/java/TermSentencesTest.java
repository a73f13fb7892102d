import java.io.IOException;

/** The document's 'What it is' and 'Terms', sentence by sentence: what each names too small, too large, empty, full. */
public final class TermSentencesTest {
    /** s 0, t 1, c 2, hi 3, lo 4, no 5: worth 6, 2, 6, 9, 2, 0. */
    private static final String FORK = "max s;min t;chance c;end hi 9;end lo 2;end no 0;"
        + "way s t;way s c;way t hi;way t lo;way c hi 2;way c no;way c s;";
    /** a 0 and b 1 can pass play to each other for ever, or take g 2. */
    private static final String PAIR = "max a;max b;end g 5;way a b;way a g;way b a;way b g;";
    /** From b 1 MIN goes back to a 0, as long as it can. */
    private static final String ROUND = "max a;min b;end g 5;way a b;way a a;way b a;way b g;";
    /** From w 0 chance may come to the ring of u 1 and v 2, to that of x 3, or to g 4. */
    private static final String TWO_RINGS = "chance w;min u;max v;max x;end g 4;"
        + "way w u;way w x;way w g 2;way u v;way v u;way x x;";
    private static final String EIGHT = "max a;max b;max c;min d;min e;min f;chance g;chance h;";
    private static final String EIGHT_WAYS = "way a b;way b c;way c d;way d e;way e f;way f g;way g h;way h a;";
    private static final String FOUR_ENDS = "end w 1;end x 1;end y 1;end z 1;";
    private static final String FIVE_CHANCE = "chance a;chance b;chance c;chance d;chance e;";

    private final Sentences s;

    private TermSentencesTest() throws IOException {
        s = new Sentences("TermSentencesTest");
    }

    public static void main(String[] args) throws IOException {
        new TermSentencesTest().run();
    }

    private void run() {
        whatItIs();
        s.section("Terms");
        texts();
        words();
        limits();
        numbersAndBlanks();
        faultsOfTokens();
        faultsOfMeaning();
        play();
        bestPlans();
        tried();
        leftAndImprove();
        stopped();
        byBoth();
        sets();
        above();
        drawn();
        fractions();
        s.finish();
    }

    private static String blanks(int n) {
        return " ".repeat(n);
    }

    // ---------------------------------------------------------------- What it is

    private void whatItIs() {
        s.section("What it is");
        s.passes("Games of two players and chance on networks: nodes at which one of them chooses a way, or chance does by"
            + " weights, and ends that pay; what a node is worth when the one wants much, the other one little, and play that"
            + " never ends pays nothing, as exact fractions; the first of all best plans of both; plans that are improved step"
            + " by step till nothing betters them, ways that are held; what it would be worth, if each move could be the last"
            + " one; where play stays for ever, how long it takes else, where it must come to nothing, where it can surely be"
            + " brought to an end that pays; numbers that prove from above, from below; ranks, plays by draws, networks as"
            + " texts, undone, images. ==== 1.");
        s.says("An object is used for at most 512 calls after it has been made; what later calls answer is free.");
        // count(), 6 feeds, end(), game(), fault(), then 71 times seven calls, and five more: the last one is the 512th
        s.game(FORK);
        for (int k = 0; k < 71; k++) {
            s.is("hold 0 0 = 0; worth 0 = 2/1; undo = 0; worth 0 = 6/1; node 6 0 = !");
        }
        s.is("count 0 = 6; worth 0 = 6/1; rank 0 = 3; worth 2 0 = 6");
    }

    // ---------------------------------------------------------------- the grammar and its limits

    private void texts() {
        s.says("A GAME is a text of at most 400 bytes: { LINE ; }.");
        s.fresh();
        s.reads("");
        s.is("count 0 = 0");
        s.reads("end g 1;");
        s.is("count 0 = 1");
        s.reads(FORK + blanks(400 - FORK.length()));
        s.is("count 0 = 6");
        String full = longest();
        s.same("bytes of the longest game", full.length(), 400);
        s.reads(full);
        s.is("count 0 = 12; count 5 = 12");
        s.faultAt(1, 400, full + " ");
        s.faultAt(1, 400, FORK + blanks(401 - FORK.length()));
        s.fault(1, "end g 1|");
        s.fault(1, "|;");
        s.fault(1, "end g 1;|;");

        s.says("LINE: 'max' NAME | 'min' NAME | 'chance' NAME | 'end' NAME N (its PAY, 0 to 9)");
        s.game("max a;min b;chance c;end d 0;end e 9;way a d;way b d;way c d;");
        s.is("node 0 0 = 1; node 1 0 = 2; node 2 0 = 3; node 3 0 = 0; node 3 1 = 0; node 4 1 = 9");
        s.fault(2, "end d |10;");
        s.fault(2, "end d |99;");
        s.fault(1, "end d|;");
        s.fault(1, "end d |-1;");
        s.fault(1, "end d 1 |1;");
        s.fault(1, "end |1;");
        s.fault(1, "max|;");
        s.fault(1, "max a |1;");
        s.fault(1, "min a |b;");
        s.fault(1, "|mid a;");

        s.says("| 'way' NAME NAME [ N ]");
        s.game("chance a;end g 1;way a g;way a g 2;");
        s.is("node 0 2 = 2; way 0 0 0 = 1; way 0 0 1 = 1; way 0 1 0 = 1; way 0 1 1 = 2");
        s.fault(1, "chance a;way|;");
        s.fault(1, "chance a;way a|;");
        s.fault(1, "chance a;way a |1;");
        s.fault(1, "chance a;way |1 a;");
        s.fault(1, "chance a;way a a |a;");
        s.fault(1, "chance a;way a a 1 |1;");

        s.says("(from the first NODE, which is no END, to the second one; it may be the same");
        s.game("max a;min b;end g 1;way a b;way b b;");
        s.is("way 0 0 0 = 1; way 1 0 0 = 1; node 0 2 = 1; node 1 2 = 1; node 2 2 = 0");
        s.fault(3, "max a;end g 1;way |g a;");
        s.fault(3, "end g 1;way |g g;");

        s.says("N, its WEIGHT, 1 to 3, only from CHANCE; 1 without)");
        s.game("chance a;chance b;chance c;max d;min e;way a a 1;way b b 3;way c c;way d d;way e e;");
        s.is("way 0 0 1 = 1; way 1 0 1 = 3; way 2 0 1 = 1; way 3 0 1 = 1; way 4 0 1 = 1");
        s.fault(2, "chance a;way a a |0;");
        s.fault(2, "chance a;way a a |4;");
        s.fault(1, "max a;way a a |1;");
        s.fault(1, "min a;way a a |1;");
        s.fault(1, "max a;way a a |0;");
    }

    /** Twelve nodes with names of six letters, twelve ways, and a blank more here and there. */
    private static String longest() {
        StringBuilder text = new StringBuilder();
        for (int k = 0; k < 12; k++) {
            text.append(k < 8 ? k < 3 ? "chance" : "max" : "end").append(' ').append(name(k)).append(k < 8 ? ";" : " 7;");
        }
        for (int k = 0; k < 12; k++) {
            text.append("way ").append(name(k % 8)).append(' ').append(name((k + 1) % 12)).append(";");
        }
        while (text.length() < 400) {
            text.insert(text.indexOf(";") + 1, ' ');
        }
        return text.toString();
    }

    private static String name(int k) {
        return String.valueOf((char) ('a' + k)).repeat(6);
    }

    private void words() {
        s.says("NAME: a word, told once, none of these five words");
        s.fresh();
        for (String word : new String[] {"max", "min", "chance", "end", "way"}) {
            s.fault(1, "max |" + word + ";");
            s.fault(1, "end |" + word + " 1;");
            s.fault(1, "max a;way |" + word + " a;");
            s.fault(1, "max a;way a |" + word + ";");
            s.reads("max " + word.substring(1) + ";way " + word.substring(1) + " " + word.substring(1) + ";");
        }
        s.reads("max maxx;max ends;end ways 1;way maxx ends;way ends ways;");
        s.fault(3, "max a;min |a;");
        s.fault(3, "max a;end |a 1;");
        s.fault(3, "end a 1;end |a 1;");
        s.reads("max a;max aa;max ab;max ba;way a a;way aa aa;way ab ab;way ba ba;");

        s.says("a word: small letters, 1 to 6.");
        s.reads("max a;end z 1;way a z;");
        s.reads("max abcdef;end zzzzzz 1;way abcdef zzzzzz;");
        s.fault(1, "max |abcdefg;");
        s.fault(1, "max |;");
        s.fault(1, "max |A;");
        s.fault(1, "max |Z;");
        s.fault(1, "max |`;");
        s.fault(1, "max |{;");
        s.fault(1, "max |" + (char) 228 + ";");
        s.fault(1, "|Max a;");
        s.fault(1, "max a;way a |aaaaaaa;");
        // more letters never come to look like a name or a word again
        s.fault(1, "max |aaaaaaaaaaaaaaaaaaaaaaaaaaaaaaaaaaaaaaaa;");
    }

    private void limits() {
        s.says("8 NODES that are no ENDS at most, 5 of these CHANCE, 4 ENDS");
        s.fresh();
        s.reads(EIGHT + EIGHT_WAYS);
        s.is("count 0 = 8; count 4 = 0");
        s.reads(EIGHT + FOUR_ENDS + EIGHT_WAYS);
        s.is("count 0 = 12; count 4 = 4");
        s.reads(FIVE_CHANCE + "max f;max g;min h;" + "way a b;way b c;way c d;way d e;way e f;way f g;way g h;way h a;");
        s.is("count 3 = 5; count 0 = 8");
        s.fault(4, EIGHT + "|max i;" + EIGHT_WAYS);
        s.fault(4, FIVE_CHANCE + "|chance f;");
        s.fault(4, FOUR_ENDS + "|end v 1;");

        s.says("all NODES are numbered from 0 as told.");
        s.game("end g 3;max b;end h 4;min a;way b g;way a h;");
        s.is("node 0 0 = 0; node 0 1 = 3; node 1 0 = 1; node 2 1 = 4; node 3 0 = 2; way 1 0 0 = 0; way 3 0 0 = 2");
        s.is("node 4 0 = !; node -1 0 = !");

        s.says("From a NODE 3 WAYS at most, numbered from 0 as told");
        s.game("max a;end g 3;min b;end h 4;way b h;way a g;way b a;way a b;way a a;way b b;");
        s.is("node 0 2 = 3; way 0 0 0 = 1; way 0 1 0 = 2; way 0 2 0 = 0; way 0 3 0 = !");
        s.is("node 2 2 = 3; way 2 0 0 = 3; way 2 1 0 = 0; way 2 2 0 = 2; way 2 -1 0 = !");
        s.fault(4, "max a;way a a;way a a;way a a;way |a a;");
        s.fault(4, "chance a;way a a;way a a;way a a;way |a a;");

        s.says("from CHANCE WEIGHTS together not above 4.");
        s.fresh();
        s.reads("chance a;way a a 3;way a a 1;");
        s.reads("chance a;way a a 2;way a a 2;");
        s.reads("chance a;way a a;way a a 2;way a a;");
        s.fault(2, "chance a;way a a 3;way a a |2;");
        s.fault(2, "chance a;way a a 2;way a a 2;way a a |1;");
        s.fault(2, "chance a;way a a 2;way a a;way a a |2;");
        s.fault(2, "chance a;way a a 2;way a a 2;way a |a;");
    }

    private void numbersAndBlanks() {
        s.says("Numbers: digits, 1 or 2");
        s.game("end a 7;end b 07;end c 00;chance d;way d a 03;");
        s.is("node 0 1 = 7; node 1 1 = 7; node 2 1 = 0; way 3 0 1 = 3");
        s.fault(1, "end a |007;");
        s.fault(1, "end a |/;");
        s.fault(1, "end a |:;");
        s.fault(1, "end a|;");
        s.fault(1, "end a |4294967297;");

        s.says("blanks (32) may stand between all");
        s.fresh();
        s.reads("   ");
        s.is("count 0 = 0");
        s.reads("  max  a  ;  end  g  5  ;  way  a  g  ;  ");
        s.tells("max a;end g 5;way a g;");
        s.reads("chance a;end g 5;way a g;way   a g   2   ;");
        s.tells("chance a;end g 5;way a g 1;way a g 2;");
        for (int sign : new int[] {0, 9, 10, 13, 31, 33, 95, 160, 255}) {
            s.fault(1, "|" + (char) sign + "max a;");
            s.fault(1, "max|" + (char) sign + "a;");
            s.fault(1, "max a|" + (char) sign + ";way a a;");
            s.fault(1, "end g 1;|" + (char) sign);
        }

        s.says("(a word, a number goes on as long as letters and digits do).");
        s.fresh();
        s.fault(1, "|maxa;");
        s.fault(1, "max |a1;");
        s.fault(1, "max |1a;");
        s.fault(1, "end |g1;");
        s.fault(1, "end g |1a;");
        s.fault(1, "end g 1 |0;");
        s.fault(3, "max a;way |aa;");
        s.fault(1, "chance a;way a |a2;");
        s.fault(1, "max abcdef |g;");
    }

    // ---------------------------------------------------------------- FAULTS

    private void faultsOfTokens() {
        s.says("FAULTS, the first along the text, of one TOKEN the least:");
        s.fresh();
        s.fault(1, "max |!;end a 10;max a;max a;");
        s.fault(2, "end a |10;max !;end a 1;");
        s.fault(3, "max a;max |a;max !;end b 10;");
        s.fault(4, FOUR_ENDS + "|end w 10;max !;");
        s.fault(4, FOUR_ENDS + "|end !");
        s.fault(4, "max a;way a a;way a a;way a a;way |a b 9;");
        s.fault(3, "chance a;way a |b 9;");
        s.fault(2, "chance a;way a a 2;way a a 2;way a |a !");
        // at one token: 1 is less than 5, 2 is less than 3
        s.fault(1, "max a;max b|");
        s.fault(2, "chance a;way a a 2;way a a 2;way a |b;");
        s.fault(3, "chance a;way a a 2;way a a 2;way a |b 1;");
        s.fault(1, "end a |100;");

        s.says("1 what is no word, number, ; or can't stand there (at it;");
        s.fresh();
        s.fault(1, "max a|,");
        s.fault(1, "max |-a;");
        s.fault(1, "  |7;");
        s.fault(1, "max |7;");
        s.fault(1, "max |;");
        s.fault(1, "max a  |b;");
        s.fault(1, "max |max;");
        s.fault(1, "|a;");
        s.fault(1, "max a;way a a  |1;");
        s.fault(1, "end g |g;");

        s.says("the end: how many bytes there are;");
        s.fresh();
        for (String text : new String[] {"max", "max a", "max a;way", "max a;way a", "max a;way a a", "end g", "end g 1", "end g 1;max"}) {
            s.fault(1, text + "|");
            s.fault(1, text + "  |");
        }
        s.fault(1, "max a;way a a" + blanks(387) + "|");
    }

    private void faultsOfMeaning() {
        s.says("400, if there are more, and nothing is read);");
        s.fresh();
        s.faultAt(1, 400, "!" + blanks(400));
        s.faultAt(1, 400, blanks(440));
        s.faultAt(1, 400, "max a;max a;" + blanks(400));
        s.faultAt(1, 0, "!" + blanks(399));
        s.is("count 0 = 0; count 7 = 0");

        s.says("2 a number that is not as told, by which WEIGHTS are above 4 (at it;");
        s.fresh();
        s.fault(2, "end a  |10  ;");
        s.fault(2, "chance a;way a a  |0;");
        s.fault(2, "chance a;way a a |00;");
        s.fault(2, "chance a;way a a |4;");
        s.fault(2, "chance a;way a a |10;");
        s.fault(2, "chance a;way a a 3;way a a |3;");
        s.fault(2, "chance a;way a a 3;way a a  |2;");
        s.fault(2, "chance a;chance b;way a a 3;way b b 3;way a a;way b b |2;");

        s.says("of a WAY without one: at its second NAME);");
        s.fresh();
        s.fault(2, "chance a;way a a 3;way a a;way a  |a  ;");
        s.fault(2, "chance a;chance b;way a a 2;way b b;way a a 2;way b b;way a |b;");
        s.fault(2, "chance a;way a a 3;way a a 1;way a |a;");

        s.says("3 a NAME told twice, one that is not told, a way from an END (at it);");
        s.fresh();
        s.fault(3, "max a;min |a;");
        s.fault(3, "end a 1;chance b;end  |b 1;");
        s.fault(3, "way |a a;");
        s.fault(3, "max a;way |b a;");
        s.fault(3, "max a;way a |b;");
        s.fault(3, "max a;way a |b;max b;way b a;");
        s.fault(3, "max a;end g 1;way  |g a;");

        s.says("4 a ninth NODE that is no END, a sixth CHANCE, a fifth END (at the LINE's first word),");
        s.fresh();
        s.fault(4, EIGHT + "  |max i;");
        s.fault(4, EIGHT + "|min i;");
        s.fault(4, EIGHT + "|chance i;");
        s.fault(4, EIGHT + FOUR_ENDS + EIGHT_WAYS + " |end i 1;");
        s.fault(4, FIVE_CHANCE + "  |chance f;");
        s.fault(4, FIVE_CHANCE + "max f;min g;|chance h;");
        s.fault(4, FIVE_CHANCE + "max f;min g;max h;|max i;");
        s.fault(4, FOUR_ENDS + "|end v 1;");

        s.says("a fourth WAY (at its first NAME);");
        s.fresh();
        s.fault(4, "max a;way a a;way a a;way a a;way  |a a;");
        s.fault(4, "min a;max b;way a b;way b b;way a b;way b b;way a b;way |a b;");
        s.fault(4, "chance a;way a a;way a a;way a a 2;way |a a;");

        s.says("5 some NODE that is no END has no WAY (at the text's end).");
        s.fresh();
        s.fault(5, "max a;|");
        s.fault(5, "max a;  |");
        s.fault(5, "max a;min b;way a b;|");
        s.fault(5, "chance b;max a;way a b;|");
        s.reads("end a 1;");
    }

    // ---------------------------------------------------------------- PLAY, WORTH, plans

    private void play() {
        s.passes("==== 2.");
        s.says("PLAY goes from NODE to NODE: at a MAX (MIN) NODE that player takes a WAY, from CHANCE each comes as often as"
            + " its WEIGHT tells of all;");
        s.game("chance c;end a 4;end b 8;way c a 3;way c b;");
        s.is("worth 0 = 5/1; weigh 0 0 1 = 0; worth 0 = 6/1; weigh 0 1 3 = 0; worth 0 = 7/1");
        s.game("max m;min n;end a 4;end b 8;way m a;way m b;way n a;way n b;");
        s.is("worth 0 = 8/1; worth 1 = 4/1; play 0 0 1 = 3; play 1 0 1 = 2");

        s.says("at an END it is over, and pays that;");
        s.game("end g 0;end h 9;");
        s.is("worth 0 = 0/1; worth 1 = 9/1; play 1 0 60 = 1; within 1 0 = 9/1; within 1 8 = 9/1; stopped 1 2 = 9/1; moves 1 = 0/1");

        s.says("PLAY that never ends pays 0.");
        s.game("max a;min b;way a a;way b b;");
        s.is("worth 0 = 0/1; worth 1 = 0/1");
        s.game("chance a;max r;end g 8;way a r;way a g;way r r;");
        s.is("worth 0 = 4/1; worth 1 = 0/1; worth 2 = 8/1");
        s.game(ROUND);
        s.is("worth 0 = 0/1; worth 1 = 0/1; worth 2 = 5/1");

        s.says("A PLAN of a player: one WAY for each of its NODES.");
        s.game(FORK);
        s.is("best 0 = 1; best 1 = 1; best 2 = NONE; best 3 = NONE; tried 0 = 0; tried 1 = NONE");

        s.says("WORTH of a NODE: the most that MAX can have, the PAY expected from there on, whatever MIN does");
        s.game(FORK);
        s.is("worth 0 = 6/1; worth 1 = 2/1; worth 2 = 6/1; worth 3 = 9/1; worth 4 = 2/1; worth 5 = 0/1");
        s.game("max a;min b;chance c;end g 9;end z 0;way a b;way b c;way c g;way c z;way b a;way a g;");
        s.is("worth 0 = 9/1; worth 1 = 9/2; worth 2 = 9/2");

        s.says("(there are PLANS for both by which it is just that, from each NODE).");
        s.game(FORK);
        s.is("hold 0 1 = 0; worth 0 = 6/1; worth 2 = 6/1; hold 1 1 = 0; worth 0 = 6/1; worth 1 = 2/1; worth 2 = 6/1");
        s.game(PAIR);
        s.is("hold 0 0 = 0; hold 1 1 = 0; worth 0 = 5/1; worth 1 = 5/1");

        s.says("WAYS that are HELD: from a NODE with one no others can be taken.");
        s.game(FORK);
        s.is("hold 0 0 = 0; hold 1 0 = 0; worth 0 = 9/1; worth 1 = 9/1; worth 2 = 27/4; best 0 = 0; best 1 = 0; good 0 = 1");
        s.is("good 1 = 1; tried 0 = 0; left 0 = 9/1; improve = 0; stopped 0 2 = 9/4; within 0 2 = 9/1; within 0 1 = 0/1");
        s.is("forced 2 8 = 11; forced 1 16 = 16; moves 0 = 2/1; sets 1 0 = 27; sets 2 0 = 2; play 0 0 2 = 3; often 0 0 9 0 = 81");
        s.fractions("9/1 9/1 27/4 9/1 2/1 0/1");
        s.is("above = NONE");
        s.game("max a;min b;end g 2;end h 7;way a h;way a g;way b g;way b h;");
        s.is("hold 0 1 = 0; hold 1 1 = 0; worth 0 = 2/1; worth 1 = 7/1; best 0 = 1; best 1 = 1; good 0 = 2; good 1 = 2; tried 0 = 1");
        s.is("left 0 = 2/1; left 1 = 7/1; improve = 0; stopped 0 2 = 1/1; stopped 1 2 = 7/2; within 0 1 = 2/1; within 1 1 = 7/1");
        s.is("forced 1 8 = 10; forced 2 4 = 5; play 0 0 1 = 2; play 1 0 1 = 3; often 0 0 3 0 = 6");
    }

    private void bestPlans() {
        s.says("BEST PLAN of MAX: one by which, against each PLAN of MIN, no NODE brings less than its WORTH;");
        s.game("max a;end g 3;end h 5;way a g;way a h;");
        s.is("best 0 = 1");
        s.game(PAIR);
        s.is("best 0 = 0; best 1 = 1; play 0 0 2 = 2");
        // by way 0 MIN would bring play back to a for ever
        s.game("max a;min m;end g 3;end h 4;way a m;way a g;way m a;way m h;");
        s.is("worth 1 = 3/1; best 0 = 1");
        s.game("max a;min m;end g 3;way a m;way a g;way m g;way m a;");
        s.is("worth 0 = 3/1; worth 1 = 3/1; best 0 = 1; best 1 = 0");
        // chance that comes back for ever is no way out, chance that leads on is one
        s.game("max a;chance c;end g 4;way a c;way a g;way c a;way c a;");
        s.is("worth 0 = 4/1; worth 1 = 4/1; best 0 = 1");
        s.game("max a;chance c;end g 4;way a c;way a g;way c a;way c g;");
        s.is("worth 0 = 4/1; worth 1 = 4/1; best 0 = 0");
        s.game("max a;max b;way a b;way a a;way b a;");
        s.is("best 0 = 0; best 1 = 0");

        s.says("of MIN likewise no more;");
        s.game("min a;end g 5;end h 3;way a g;way a h;");
        s.is("best 0 = 1");
        s.game("min a;end g 5;way a g;way a a;");
        s.is("worth 0 = 0/1; best 0 = 1");
        s.game("min a;min b;end g 5;way a b;way a g;way b a;way b g;");
        s.is("worth 0 = 0/1; best 0 = 0; best 1 = 0");

        s.says("of such the first: by NODES, the least number of the WAY (a HELD one where there is one)."
            + " (Of both: what is HELD stays so.)");
        s.game("max a;max b;max c;end g 5;way a b;way a g;way b c;way b g;way c a;way c g;");
        s.is("best 0 = 0; best 1 = 0; best 2 = 1");
        s.is("hold 2 0 = 0; best 0 = 0; best 1 = 1; best 2 = 0");
        s.is("hold 1 0 = 0; best 0 = 1; best 1 = 0; best 2 = 0");
        s.is("hold 0 0 = 0; best 0 = 0; best 1 = 0; best 2 = 0; worth 0 = 0/1");
        s.game("max a;min b;end g 5;end h 5;end i 5;way a i;way a h;way a g;way b i;way b h;way b g;");
        s.is("best 0 = 0; best 1 = 0; hold 0 2 = 0; hold 1 1 = 0; best 0 = 2; best 1 = 1");
        s.is("pay 3 1 = 0; best 0 = 2; best 1 = 1; free 0 = 0; free 1 = 0; best 0 = 0; best 1 = 1");
    }

    private void tried() {
        s.says("TRIED is a PLAN of MAX: at first WAY 0 everywhere (the HELD one);");
        s.game(PAIR);
        s.is("tried 0 = 0; tried 1 = 0; tried 2 = NONE; hold 1 1 = 0; tried 0 = 0; tried 1 = 1");

        s.says("it is so anew behind game(), hold(), free(), weigh(), pay(), undo(), restore() (that did anything).");
        String[] something = {"hold 1 0 = 0", "free 1 = 0", "weigh 2 0 1 = 0", "pay 3 8 = 0", "undo = 0", "restore 0 = true"};
        for (String call : something) {
            improvedFork();
            s.is(call);
            s.is("tried 0 = 0");
        }
        improvedFork();
        s.reads(FORK);
        s.is("tried 0 = 0");
        improvedFork();
        s.is("hold 0 1 = 0; tried 0 = 1; undo = 1; tried 0 = 0");
        String[] nothing = {"hold 1 1 = 1", "hold 0 2 = NONE", "free 0 = 1", "free 6 = NONE", "weigh 2 0 2 = 1", "weigh 2 0 3 = 2",
            "weigh 2 0 4 = NONE", "pay 3 9 = 1", "pay 3 10 = NONE", "restore 1 = false", "image 1 = true", "improve = 0"};
        improvedFork();
        for (String call : nothing) {
            s.is(call);
            s.is("tried 0 = 1");
        }
        s.fault(1, "max|");
        s.is("tried 0 = 1; left 0 = 6/1");
        s.game(PAIR);
        s.is("improve = 2; undo = NONE; tried 0 = 1");
    }

    /** In place 0, with the way 1 of t held, and the plan improved once. */
    private void improvedFork() {
        s.game(FORK);
        s.is("hold 1 1 = 0; image 0 = true; improve = 1; tried 0 = 1");
    }

    private void leftAndImprove() {
        s.says("LEFT of a NODE by it: the PAY expected, MIN doing its best against it (the least).");
        s.game(FORK);
        s.is("left 0 = 2/1; left 1 = 2/1; left 2 = 5/1; left 3 = 9/1; left 4 = 2/1; left 5 = 0/1; improve = 1; left 0 = 6/1");
        s.game("max a;min b;end g 5;way a b;way a g;way b g;way b a;");
        s.is("left 0 = 0/1; left 1 = 0/1; worth 0 = 5/1; worth 1 = 5/1; hold 1 0 = 0; left 0 = 5/1; left 1 = 5/1");

        s.says("To IMPROVE it: each MAX NODE (that holds none) from which a WAY leads to a NODE with more LEFT than that of the"
            + " WAY it has now takes, of its WAYS, the one to the NODE with the most LEFT, of like ones the first.");
        s.game(PAIR);
        s.is("improve = 2; tried 0 = 1; tried 1 = 1; left 0 = 5/1");
        s.game(PAIR);
        s.is("hold 0 0 = 0; improve = 1; tried 0 = 0; tried 1 = 1");
        s.game("max a;end g 2;end h 5;end i 7;way a g;way a h;way a i;");
        s.is("improve = 1; tried 0 = 2");
        s.game("max a;end g 2;end h 7;end i 7;way a g;way a h;way a i;");
        s.is("improve = 1; tried 0 = 1");
        s.game("max a;end g 7;end h 7;way a g;way a h;");
        s.is("improve = 0; tried 0 = 0");
        s.game("max a;end g 7;end h 6;way a g;way a h;");
        s.is("improve = 0; tried 0 = 0");
        // what is tried comes to stand behind the first of like ones, and stays
        s.game("max a;max b;end g 3;end h 3;way a b;way a h;way b g;way b h;");
        s.is("improve = 0; pay 2 0 = 0; improve = 2; tried 0 = 1; tried 1 = 1; left 1 = 3/1; improve = 0; tried 0 = 1");
    }

    // ---------------------------------------------------------------- STOPPED, BY BOTH, sets

    private void stopped() {
        s.says("STOPPED by q (2 to 5): in each move, one of q, PLAY is over instead, and pays 0 (for the rest it is as told):"
            + " WORTH then.");
        s.game("max a;max b;end g 9;way a b;way b g;");
        s.is("stopped 2 2 = 9/1; stopped 1 2 = 9/2; stopped 1 3 = 6/1; stopped 1 4 = 27/4; stopped 1 5 = 36/5");
        s.is("stopped 0 2 = 9/4; stopped 0 3 = 4/1; stopped 0 4 = 81/16; stopped 0 5 = 144/25");
        s.is("stopped 0 1 0 = !; stopped 0 6 0 = !; stopped 0 0 0 = !; stopped 0 ? 0 = !");
        s.game("chance a;end g 1;way a a;way a g;");
        s.is("stopped 0 2 = 1/3; stopped 0 5 = 2/3; worth 0 = 1/1");
        s.game("min a;max b;end g 5;way a g;way a b;way b g;");
        s.is("stopped 0 4 = 45/16; hold 0 0 = 0; stopped 0 4 = 15/4");
        s.game("max a;way a a;");
        s.is("stopped 0 2 = 0/1; stopped 0 5 = 0/1");
    }

    private void byBoth() {
        s.says("BY BOTH: PLAY by BEST PLANS of both.");
        s.game(FORK);
        s.is("play 0 0 1 = 2; play 1 0 1 = 4; moves 1 = 1/1; hold 0 0 = 0; play 0 0 1 = 1; moves 0 = 2/1");
        s.game(PAIR);
        s.is("play 0 0 1 = 1; moves 0 = 2/1; rings = 0");

        s.says("RINGS: sets of NODES (no ENDS) such that BY BOTH PLAY that is in one stays there for ever, and comes from each"
            + " of it to each other one;");
        s.game("end g 1;end h 0;");
        s.is("rings = 0; ring 0 = NONE");
        s.game("max a;way a a;");
        s.is("rings = 1; ring 0 = 1; ring 1 = NONE");
        s.game("max a;max b;way a b;way b b;");
        s.is("rings = 1; ring 0 = 2");
        s.game("chance a;chance b;end g 1;way a b;way b a 3;way b g;");
        s.is("rings = 0");
        s.game("chance a;chance b;way a b;way b a 3;way b b;");
        s.is("rings = 1; ring 0 = 3");
        s.game(ROUND);
        s.is("rings = 1; ring 0 = 3; hold 1 1 = 0; rings = 0");

        s.says("in order of their least NODES.");
        s.game("min a;min b;min c;min d;way a c;way c a;way b d;way d b;");
        s.is("rings = 2; ring 0 = 5; ring 1 = 10");
        s.game("min a;min b;min c;min d;way a d;way d a;way b c;way c b;");
        s.is("rings = 2; ring 0 = 9; ring 1 = 6");
        s.game("min a;min b;min c;min d;min e;min f;min g;min h;way a h;way b b;way c c;way d d;way e e;way f f;way g g;way h h;");
        s.is("rings = 7; ring 0 = 2; ring 1 = 4; ring 5 = 64; ring 6 = 128; ring 7 = NONE");

        s.says("LONG of a NODE: how many moves are expected BY BOTH to an END (none at an END);");
        s.game(FORK);
        s.is("moves 0 = 8/3; moves 1 = 1/1; moves 2 = 5/3; moves 3 = 0/1; moves 5 = 0/1");
        s.game("chance a;end g 1;way a a 3;way a g;");
        s.is("moves 0 = 4/1; moves 1 = 0/1");

        s.says("NEVER, if a RING can be come to from it.");
        s.game(TWO_RINGS);
        s.is("moves 0 0 = !; moves 0 1 = !; moves 1 0 = !; moves 2 0 = !; moves 3 0 = !; moves 4 = 0/1");
        // a way into the ring that the best plans do not take is of no matter
        s.game("max a;max b;end g 5;way a b;way a g;way b b;");
        s.is("moves 0 = 1/1; moves 1 0 = !");
    }

    private void sets() {
        s.says("TRAP: NODES with WORTH 0.");
        s.game(FORK);
        s.is("sets 0 0 = 32; pay 5 1 = 0; sets 0 0 = 0");
        s.game(ROUND);
        s.is("sets 0 0 = 3; pay 2 0 = 0; sets 0 0 = 7; pay 2 1 = 0; hold 1 1 = 0; sets 0 0 = 0");

        s.says("SURE: NODES (ENDS with PAY above 0, too) from which MAX can bring it about, whatever MIN does, that PLAY comes"
            + " to an END with PAY above 0 with certainty (its chance is 1).");
        s.game("end g 1;end z 0;");
        s.is("sets 1 0 = 1; pay 0 0 = 0; sets 1 0 = 0; pay 1 9 = 0; sets 1 0 = 2");
        s.game(FORK);
        s.is("sets 1 0 = 27; hold 0 1 = 0; sets 1 0 = 26");
        // by chance that comes back for ever it is certain, by chance that may lose it is not
        s.game("chance a;max b;end g 1;end z 0;way a b;way a g;way b a;way b z;");
        s.is("sets 1 0 = 7; hold 1 1 = 0; sets 1 0 = 4");
        s.game("chance a;min b;end g 1;end z 0;way a b;way a g;way b a;way b z;");
        s.is("sets 1 0 = 4; hold 1 0 = 0; sets 1 0 = 7");
        // a surer end that pays little beats a risk that is worth more
        s.game("max a;chance c;end g 9;end h 1;end z 0;way a c;way a h;way c g 3;way c z;");
        s.is("best 0 = 0; sets 1 0 = 13");
        // MIN may go round, and that is no end
        s.game(ROUND);
        s.is("sets 1 0 = 4");

        s.says("SOON of a NODE: the fewest moves by WAYS that can be taken, whoever takes them, to an END with PAY above 0"
            + " (0 there).");
        s.game(FORK);
        s.is("sets 2 0 = 2; sets 2 1 = 1; sets 2 2 = 1; sets 2 3 = 0; sets 2 4 = 0; sets 2 5 = NONE");
        s.is("pay 5 1 = 0; sets 2 5 = 0");
        s.game(ROUND);
        s.is("worth 0 = 0/1; sets 2 0 = 2; sets 2 1 = 1; hold 1 0 = 0; sets 2 0 = NONE; sets 2 1 = NONE; sets 2 2 = 0");
        s.game("max a;min b;chance c;max d;min e;chance f;max g;min h;end i 1;"
            + "way a b;way b c;way c d;way d e;way e f;way f g;way g h;way h i;way h a;");
        s.is("sets 2 0 = 8; sets 2 7 = 1; hold 7 1 = 0; sets 2 0 = NONE");

        s.says("RANKS: all NODES by WORTH, the most first, of like ones the least number first.");
        s.game(FORK);
        s.is("rank 0 = 3; rank 1 = 0; rank 2 = 2; rank 3 = 1; rank 4 = 4; rank 5 = 5; rank 6 = NONE");
        s.game("end a 5;end b 5;end c 5;end d 5;");
        s.is("rank 0 = 0; rank 1 = 1; rank 2 = 2; rank 3 = 3; pay 3 6 = 0; rank 0 = 3; rank 1 = 0; rank 3 = 2");
    }

    // ---------------------------------------------------------------- ABOVE, draws, fractions

    private void proves(String told, String answer) {
        s.fractions(told);
        s.is("above = " + answer);
    }

    private void above() {
        s.says("ABOVE: a fraction told for each NODE proves WORTH from above, if for an END it is its PAY at least,");
        s.game("end a 9;end b 0;");
        proves("9/1 0/1", "NONE");
        proves("18/2 0/127", "NONE");
        proves("127/1 127/1", "NONE");
        proves("8/1 0/1", "0");
        proves("125/14 0/1", "0");
        proves("127/14 0/1", "NONE");

        s.says("for a MAX NODE as much as that of each NODE to which a WAY (that can be taken) leads,");
        s.game("max a;end g 3;end h 7;way a g;way a h;");
        proves("7/1 3/1 7/1", "NONE");
        proves("3/1 3/1 7/1", "0");
        proves("125/18 3/1 7/1", "0");
        proves("71/10 3/1 72/10", "0");
        proves("14/2 3/1 21/3", "NONE");
        s.is("hold 0 0 = 0");
        proves("3/1 3/1 7/1", "NONE");
        proves("29/10 3/1 7/1", "0");
        s.game("max a;way a a;");
        proves("0/1", "NONE");

        s.says("for a MIN NODE as much as that of one of these,");
        s.game("min a;end g 3;end h 7;way a h;way a g;");
        proves("3/1 3/1 7/1", "NONE");
        proves("29/10 3/1 7/1", "0");
        proves("7/1 8/1 7/1", "NONE");
        s.is("hold 0 0 = 0");
        proves("3/1 3/1 7/1", "0");
        proves("7/1 3/1 7/1", "NONE");

        s.says("for CHANCE as much as these by WEIGHTS.");
        s.game("chance a;end g 3;end h 7;way a g 3;way a h;");
        proves("4/1 3/1 7/1", "NONE");
        proves("39/10 3/1 7/1", "0");
        proves("3/1 3/1 7/1", "0");
        s.is("weigh 0 0 1 = 0");
        proves("4/1 3/1 7/1", "0");
        proves("5/1 3/1 7/1", "NONE");
        s.game("chance a;chance b;chance c;chance d;way a b;way a c;way a d 2;way b b;way c c;way d d;");
        proves("126/127 126/127 126/127 126/127", "NONE");
        proves("125/126 126/127 126/127 126/127", "0");
        proves("127/127 126/127 125/126 127/126", "0");
        proves("127/126 126/127 125/126 127/126", "NONE");
    }

    /** The draw of n behind one step from a seed, by numbers that do not wrap. */
    private static int draw(long seed, int n) {
        return (int) (step(seed) / 256 % n);
    }

    private static long step(long seed) {
        long all = 1L << 32;
        return Math.floorMod(Math.floorMod(seed, all) * 1103515245L + 12345, all);
    }

    private void drawn() {
        s.says("DRAWN by a seed x: for each draw of n x becomes x * 1103515245 + 12345 (an int, wrapping), the draw is"
            + " (x >>> 8) % n.");
        // way i of the nodes 0, 1, 2 leads to end i of 3, 4, 5; they draw of 3, of 2, of 1
        s.game("chance a;chance b;chance c;end x 1;end y 2;end z 3;way a x;way a y;way a z;way b x;way b y;way c x;");
        for (int seed : new int[] {0, 1, -1, 2, 7, 123456789, -987654321, Integer.MAX_VALUE, Integer.MIN_VALUE}) {
            s.same("draw of 3 by " + seed, s.answer("play", 0, seed, 1), 3 + draw(seed, 3));
            s.same("draw of 2 by " + seed, s.answer("play", 1, seed, 1), 3 + draw(seed, 2));
            s.same("draw of 1 by " + seed, s.answer("play", 2, seed, 1), 3);
        }
        // a draw of 1 is a draw, too: behind it x is another one; at a node of a player nothing is drawn
        s.game("chance a;chance b;max m;end x 1;end y 2;way a b;way b x;way b y;way m b;");
        for (int seed : new int[] {0, 1, -1, 5, 6, Integer.MAX_VALUE, Integer.MIN_VALUE}) {
            s.same("the second draw by " + seed, s.answer("play", 0, seed, 2), 3 + draw(step(seed), 2));
            s.same("the first draw by " + seed, s.answer("play", 2, seed, 2), 3 + draw(seed, 2));
        }

        s.says("A PLAY by draws BY BOTH: at CHANCE a draw of all WEIGHTS together: the first WAY up to which WEIGHTS together"
            + " are above it.");
        s.game("chance a;end x 1;end y 2;end z 3;way a x;way a y 2;way a z;");
        int[] ends = {1, 2, 2, 3};
        boolean[] seen = new boolean[4];
        for (int seed = 0; seed < 12; seed++) {
            int draw = draw(seed, 4);
            seen[draw] = true;
            s.same("draw " + draw, s.answer("play", 0, seed, 1), ends[draw]);
        }
        for (int draw = 0; draw < 4; draw++) {
            s.same("draw " + draw + " comes", seen[draw] ? 1 : 0, 1);
        }
        s.is("weigh 0 1 1 = 0");
        for (int seed = 0; seed < 12; seed++) {
            s.same("draw of 3", s.answer("play", 0, seed, 1), 1 + draw(seed, 3));
        }
    }

    private void fractions() {
        s.says("Fractions are told by two numbers: 0 above, 1 below (above 0), in least terms (0 by 1, if it is 0).");
        s.game("chance c;end a 2;end b 0;way c a;way c b 3;");
        s.is("worth 0 0 = 1; worth 0 1 = 2; worth 0 2 = !; worth 0 ? = !; worth 2 = 0/1; left 0 = 1/2; stopped 0 2 = 1/4");
        s.is("within 0 1 = 1/2; within 0 0 = 0/1; moves 0 = 1/1; moves 1 = 0/1; pay 1 0 = 0; worth 0 = 0/1; left 0 = 0/1");
        s.is("stopped 0 3 = 0/1; within 0 8 = 0/1");
        s.game("chance a;chance b;end g 9;end z 0;way a b 2;way a z;way b a 2;way b g;");
        // a = 2 b / 3, b = 2 a / 3 + 3: b = 27 / 5
        s.is("worth 0 = 18/5; worth 1 = 27/5; moves 0 = 3/1; moves 1 = 3/1");
    }
}
