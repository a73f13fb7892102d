import java.io.IOException;
import java.nio.file.Files;
import java.nio.file.Path;
import java.util.BitSet;

/**
 * Tests by the document's own sentences. Each is quoted by says(..) with what is asked behind it; a quote that does
 * not stand in the section at hand, one behind which nothing is asked, and a sentence of the section that is quoted
 * nowhere are faults themselves: so the tests stay as whole as the document.
 */
final class Sentences {
    private static final Path DOCUMENT = Path.of("../shared/DOC.md");
    /** Stands in a call for each of these numbers, none of which is a node, a way, a what .. */
    private static final int[] WRONG = {-1, -2, 13, 99, 1 << 16, Integer.MIN_VALUE, Integer.MAX_VALUE};

    private static final int SHOWN = 70;

    private final Due due;
    private final String document;
    private String heading = "";
    private String section = "";
    private String sentence = "";
    private final BitSet quoted = new BitSet();
    private int askedBefore;
    private Caller c = new Caller();

    Sentences(String test) throws IOException {
        due = new Due(test);
        document = Files.exists(DOCUMENT) ? Files.readString(DOCUMENT) : "";
        if (document.isEmpty()) {
            System.out.println(test + ": no " + DOCUMENT + " here, so what is quoted is not compared with it");
        }
    }

    // ---------------------------------------------------------------- what is quoted

    /** The sentences quoted from here on stand under this heading. */
    void section(String title) {
        leaveSection();
        heading = title;
        quoted.clear();
        String line = "\n## " + title + "\n";
        int start = document.indexOf(line);
        due.holds("the document has the heading " + title, start >= 0 || document.isEmpty());
        section = start < 0 ? "" : wordsOf(document.substring(start + line.length()));
    }

    /** Up to the next heading, without the method's face. */
    private static String wordsOf(String text) {
        int behind = text.indexOf("\n## ");
        String words = behind < 0 ? text : text.substring(0, behind);
        return even(words.replaceAll("```\\w*", " ").replaceAll("`[^`]*`:", " "));
    }

    private static String even(String text) {
        return text.replaceAll("\\s+", " ").trim();
    }

    /** What is asked behind this is asked for this sentence, or part of one. */
    void says(String quote) {
        leaveSentence();
        sentence = quote;
        mark(quote);
        askedBefore = due.asked();
    }

    /** Prose that promises nothing, or is told better by sentences behind it. */
    void passes(String quote) {
        leaveSentence();
        mark(quote);
    }

    private void mark(String quote) {
        int at = section.indexOf(even(quote));
        due.holds("the section says: " + quote, at >= 0 || document.isEmpty());
        if (at >= 0) {
            quoted.set(at, at + even(quote).length());
        }
    }

    private void leaveSentence() {
        due.holds("something is asked for: " + sentence, sentence.isEmpty() || due.asked() > askedBefore);
        sentence = "";
    }

    private void leaveSection() {
        leaveSentence();
        StringBuilder rest = new StringBuilder();
        for (int i = 0; i < section.length(); i++) {
            rest.append(quoted.get(i) ? ' ' : section.charAt(i));
        }
        due.holds("every sentence is quoted, but for: " + even(rest.toString()), !rest.toString().matches("(?s).*\\w.*"));
    }

    void finish() {
        leaveSection();
        due.finish();
    }

    // ---------------------------------------------------------------- what is asked

    void fresh() {
        c = new Caller();
    }

    /** A new object with this game. */
    void game(String text) {
        fresh();
        reads(text);
    }

    /** The object at hand reads a text without a fault. */
    void reads(String text) {
        due.holds(because("reads " + text), c.read(text) >= 0 && c.x.fault() == 0);
    }

    /** The text has a mark | at the place of the fault; the mark is no part of it. */
    void fault(int kind, String marked) {
        int place = marked.indexOf('|');
        faultAt(kind, place, marked.substring(0, place) + marked.substring(place + 1));
    }

    void faultAt(int kind, int place, String text) {
        due.is(because("place of the fault of " + text), c.read(text), -1000 - place);
        due.is(because("kind of the fault of " + text), c.x.fault(), kind);
    }

    /** Puts bytes on the tape, behind what is there. */
    void tape(String bytes) {
        Caller.tell(c.x, bytes);
    }

    /** Puts a fraction for each node on the tape: "6/1 2/1 ..". */
    void fractions(String told) {
        StringBuilder bytes = new StringBuilder();
        for (String fraction : told.split(" ")) {
            String[] terms = fraction.split("/");
            bytes.append((char) Integer.parseInt(terms[0])).append((char) Integer.parseInt(terms[1]));
        }
        tape(bytes.toString());
    }

    /**
     * Calls with the answers that are due, as "hold 0 1 = 0; worth 0 = 7/2; node 6 0 = !; end 3 = true": two terms
     * are asked by two calls, ! is a throw, and a ? among the numbers stands for many that are none such.
     */
    void is(String calls) {
        for (String one : calls.split(";")) {
            String[] sides = one.split("=");
            String[] words = sides[0].trim().split(" +");
            String answer = sides[1].trim();
            if (answer.contains("/")) {
                String[] terms = answer.split("/");
                ask(words, Long.parseLong(terms[0].trim()), 0);
                ask(words, Long.parseLong(terms[1].trim()), 1);
            } else {
                ask(words, number(answer));
            }
        }
    }

    private static long number(String answer) {
        switch (answer) {
            case "!": return Oracle.THROWS;
            case "true": return 1;
            case "false": return 0;
            case "NONE": return -1;
            default: return Long.parseLong(answer);
        }
    }

    private void ask(String[] words, long answer, int... more) {
        boolean many = String.join(" ", words).contains("?");
        for (int k = 0; k < (many ? WRONG.length : 1); k++) {
            int[] a = new int[words.length - 1 + more.length];
            for (int i = 1; i < words.length; i++) {
                a[i - 1] = words[i].equals("?") ? WRONG[k] : Long.decode(words[i]).intValue();
            }
            System.arraycopy(more, 0, a, words.length - 1, more.length);
            due.is(because(words[0] + java.util.Arrays.toString(a)), c.call(words[0], a), answer);
        }
    }

    /** The program's own answer, where a test compares two. */
    long answer(String name, int... a) {
        return c.call(name, a);
    }

    void same(String what, long got, long wanted) {
        due.is(because(what), got, wanted);
    }

    /** The game is told back by this text. */
    void tells(String text) {
        due.is(because("bytes of " + text), c.call("text"), text.length());
        StringBuilder told = new StringBuilder();
        for (int i = 0; i < text.length(); i++) {
            told.append((char) c.call("byteAt", i));
        }
        due.holds(because("tells " + text + " and not " + told), told.toString().equals(text));
        due.is(because("byteAt behind it"), c.call("byteAt", text.length()), -1);
    }

    private String because(String what) {
        return heading + " \"" + sentence.substring(0, Math.min(sentence.length(), SHOWN)) + "\": " + what;
    }
}
