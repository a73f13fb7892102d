/** Every kind of fault with its place, each edge of the grammar, and which of two faults is told. */
public final class FaultTest {
    private final Due due = new Due("FaultTest");
    private final Caller c = new Caller();

    public static void main(String[] args) {
        new FaultTest().run();
    }

    private void run() {
        tokens();
        numbers();
        names();
        limits();
        nodesWithoutWays();
        theLeastOfOneToken();
        due.finish();
    }

    /** The text has a mark | at the place of the fault; the mark is no part of it. */
    private void fault(int kind, String marked) {
        int place = marked.indexOf('|');
        String text = marked.substring(0, place) + marked.substring(place + 1);
        due.is(marked, c.read(text), -1000 - place);
        due.is(marked + " kind", c.x.fault(), kind);
    }

    private void good(String text, int nodes) {
        due.is(text, c.read(text), nodes);
        due.is(text + " kind", c.x.fault(), 0);
    }

    private void tokens() {
        good("", 0);
        good("   ", 0);
        good("  max  a ; way a   a;  ", 1);
        fault(1, "|;");
        fault(1, "|a;");
        fault(1, "|max1 a;");
        fault(1, "|Max a;");
        fault(1, "|7;");
        fault(1, "max |A;");
        fault(1, "max a|A;");
        fault(1, "max a|\n;");
        fault(1, "max |\t;");
        fault(1, "max a|,way a a;");
        fault(1, "max a|" + (char) 0);
        fault(1, "max a|" + (char) 255 + ";");
        fault(1, "max |a1;");
        fault(1, "max |1a;");
        fault(1, "max |1;");
        fault(1, "max |;");
        fault(1, "max |abcdefg;");
        good("max abcdef;way abcdef abcdef;", 1);
        fault(1, "max a |b;");
        fault(1, "max a |1;");
        fault(1, "max a;|;");
        fault(1, "max a|");
        fault(1, "max a  |");
        fault(1, "max|");
        fault(1, "max  |");
        fault(1, "max a;way a a|");
        fault(1, "max a;way a |;");
        fault(1, "max a;way |;");
        fault(1, "max a;way a a |a;");
        fault(1, "max a;way a a |1;");
        fault(1, "max a;way a a |9;");
        fault(1, "min a;way a a |1;");
        fault(1, "max a;way a |1;");
        fault(1, "chance a;way a a 1 |1;");
        fault(1, "chance a;way a a |123;");
        fault(1, "chance a;way a a |1x;");
        fault(1, "end a|;");
        fault(1, "end a |b;");
        fault(1, "end |a1;");
        fault(1, "end a |100;");
        fault(1, "end a 1 |1;");
        fault(1, "end a 1|");
    }

    private void numbers() {
        good("end a 0;", 1);
        good("end a 9;", 1);
        good("end a 09;", 1);
        good("end a 00;", 1);
        fault(2, "end a |10;");
        fault(2, "end a |99;");
        good("chance a;way a a 1;", 1);
        good("chance a;way a a 03;", 1);
        good("chance a;way a a 3;way a a;", 1);
        good("chance a;way a a;way a a;way a a 2;", 1);
        fault(2, "chance a;way a a |0;");
        fault(2, "chance a;way a a |4;");
        fault(2, "chance a;way a a |00;");
        fault(2, "chance a;way a a |10;");
        fault(2, "chance a;way a a 3;way a a |2;");
        fault(2, "chance a;way a a 2;way a a;way a a |2;");
        fault(2, "chance a;way a a 2;way a a 2;way a |a;");
        fault(2, "chance a;way a a 3;way a a;way a |a  ;");
    }

    private void names() {
        for (String word : new String[] {"max", "min", "chance", "end", "way"}) {
            fault(1, "max |" + word + ";");
            fault(1, "end |" + word + " 1;");
            fault(1, "max a;way |" + word + " a;");
            fault(1, "max a;way a |" + word + ";");
        }
        good("max maxx;max ma;way maxx ma;way ma maxx;", 2);
        fault(3, "max a;max |a;");
        fault(3, "max a;end |a 1;");
        fault(3, "max a;min b;chance |b;");
        fault(3, "way |a a;");
        fault(3, "max a;way |b a;");
        fault(3, "max a;way a |b;");
        fault(3, "max a;way a |b;max b;way b a;");
        fault(3, "max a;way |aa a;");
        fault(3, "end a 1;way |a a;");
        fault(3, "chance a;way a |b 9;");
        good("end a 1;max b;way b a;end c 2;max d;way d c;", 4);
    }

    private void limits() {
        String eight = "max a;max b;max c;min d;min e;min f;chance g;chance h;";
        String ways = "way a b;way b c;way c d;way d e;way e f;way f g;way g h;way h a;";
        good(eight + ways, 8);
        good(eight + "end w 1;end x 1;end y 1;end z 1;" + ways, 12);
        fault(4, eight + "|max i;" + ways);
        fault(4, eight + "|min i;");
        fault(4, eight + "|chance i;");
        fault(4, eight + "|max 7;");
        fault(4, eight + "end w 1;end x 1;end y 1;end z 1;|end v 1;");
        fault(4, "end w 1;end x 1;end y 1;end z 1;|end w 10;");
        String five = "chance a;chance b;chance c;chance d;chance e;";
        fault(4, five + "|chance f;");
        fault(4, five + "max f;|chance g;");
        fault(4, "max a;way a a;way a a;way a a;way |a a;");
        fault(4, "chance a;way a a;way a a;way a a;way |a b 9;");
        good("max a;way a a;way a a;way a a;", 1);
        String full = "max a;way a a;";
        good(full + " ".repeat(400 - full.length()), 1);
        fault(1, full + " ".repeat(400 - full.length()) + "| ");
        fault(1, "!".repeat(400) + "|!");
    }

    private void nodesWithoutWays() {
        fault(5, "max a;|");
        fault(5, "max a;  |");
        fault(5, "min a;way a a;chance b;|");
        good("end a 1;", 1);
    }

    private void theLeastOfOneToken() {
        // at the text's end 1 is ahead of 5
        fault(1, "max a|");
        fault(1, "max a;max b;way a b|");
        // at a second name 2 is ahead of 3, if the way has no weight of its own
        fault(2, "chance a;way a a 3;way a a;way a |b;");
        fault(3, "chance a;way a a 3;way a a;way a |b 1;");
        // what stands first in the text is told, though it is found later
        fault(2, "chance a;way a a 3;way a a;way a |a !");
        fault(2, "chance a;way a a 3;way a a;way a |a");
        fault(4, "max a;max b;max c;max d;max e;max f;max g;max h;|max a");
        fault(3, "max a;max |a 1;");
    }
}
