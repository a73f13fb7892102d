import java.util.ArrayList;
import java.util.Collections;
import java.util.List;
import java.util.Random;

/** Draws texts of games, and spoils them a little. */
final class GameMaker {
    private static final String[] KINDS = {"end", "max", "min", "chance"};
    private final Random random;

    GameMaker(Random random) {
        this.random = random;
    }

    /** A game as the document wants it; big ones have up to eight nodes that are no ends, most of them chance. */
    String make(boolean big) {
        int inner = big ? 6 + random.nextInt(3) : 1 + random.nextInt(6);
        int chances = big ? Math.min(5, inner - 2 - random.nextInt(3)) : Math.min(5, random.nextInt(inner + 1));
        int ends = random.nextInt(20) == 0 ? 0 : 1 + random.nextInt(4);
        List<Integer> kinds = new ArrayList<>();
        int choosers = random.nextInt(5);
        for (int k = 0; k < inner; k++) {
            kinds.add(k < chances ? 3 : choosers == 0 ? 1 : choosers == 1 ? 2 : 1 + random.nextInt(2));
        }
        for (int k = 0; k < ends; k++) {
            kinds.add(0);
        }
        Collections.shuffle(kinds, random);
        List<String> names = new ArrayList<>();
        StringBuilder s = new StringBuilder();
        for (int kind : kinds) {
            names.add(newName(names));
            s.append(blanks()).append(KINDS[kind]).append(' ').append(blanks()).append(names.get(names.size() - 1));
            s.append(kind == 0 ? " " + (random.nextInt(6) == 0 ? 0 : random.nextInt(10)) : "").append(blanks()).append(';');
        }
        for (int p = 0; p < kinds.size(); p++) {
            if (kinds.get(p) != 0) {
                s.append(ways(p, kinds.get(p), names, s.length()));
            }
        }
        return s.toString();
    }

    private String ways(int p, int kind, List<String> names, int used) {
        StringBuilder s = new StringBuilder();
        int count = used > 300 ? 1 : random.nextInt(5) == 0 ? 1 : 2 + random.nextInt(2);
        int together = 0;
        for (int i = 0; i < count; i++) {
            int to = random.nextInt(names.size());
            s.append("way ").append(names.get(p)).append(' ').append(names.get(to)).append(blanks());
            if (kind == 3) {
                int most = Math.min(3, 4 - together - (count - 1 - i));
                int weight = 1 + random.nextInt(most);
                together += weight;
                s.append(weight == 1 && random.nextBoolean() ? "" : " " + (random.nextInt(8) == 0 ? "0" : "") + weight);
            }
            s.append(';').append(random.nextInt(10) == 0 ? " " : "");
        }
        return s.toString();
    }

    private String blanks() {
        return random.nextInt(20) == 0 ? "  ".substring(random.nextInt(2)) : "";
    }

    private String newName(List<String> names) {
        for (;;) {
            StringBuilder s = new StringBuilder();
            int letters = random.nextInt(8) == 0 ? 1 + random.nextInt(6) : 1;
            for (int k = 0; k < letters; k++) {
                s.append((char) ('a' + random.nextInt(26)));
            }
            String name = s.toString();
            if (!names.contains(name) && !List.of("max", "min", "end", "way", "chance").contains(name)) {
                return name;
            }
        }
    }

    String spoil(String text) {
        StringBuilder s = new StringBuilder(text);
        if (random.nextInt(3) > 0) {
            s.append(drawnLine(text));
        }
        int times = random.nextInt(3);
        for (int k = 0; k < times; k++) {
            int at = random.nextInt(s.length() + 1);
            String part = drawnPart();
            switch (random.nextInt(4)) {
                case 0:
                    s.insert(at, part);
                    break;
                case 1:
                    s.setLength(at);
                    break;
                case 2:
                    if (at < s.length()) {
                        s.setCharAt(at, part.charAt(0));
                    }
                    break;
                default:
                    s.delete(at, Math.min(s.length(), at + 1 + random.nextInt(8)));
                    break;
            }
        }
        if (random.nextInt(10) == 0) {
            s.append(" ".repeat(Math.max(0, 398 + random.nextInt(5) - s.length())));
        }
        return s.length() > 440 ? s.substring(0, 440) : s.toString();
    }

    /** A line that is a fault by what stands before it, or may be. */
    private String drawnLine(String text) {
        String[] words = text.split("[ ;]+");
        String one = words[random.nextInt(words.length)];
        String other = random.nextInt(3) == 0 ? "nowhere".substring(1 + random.nextInt(5)) : words[random.nextInt(words.length)];
        String[] tails = {";", " 1;", " 3;", " 4;", " 0;", "", " 123;", " max;", " 1 1;", "!"};
        StringBuilder s = new StringBuilder();
        for (int k = 0; k < 3; k++) {
            String line = random.nextInt(3) > 0 ? "way " + one + " " + other : KINDS[random.nextInt(4)] + " " + other;
            s.append(line).append(tails[random.nextInt(tails.length)]);
        }
        int more = random.nextInt(4) == 0 ? 9 : 0;
        String kind = KINDS[random.nextInt(4)];
        for (int k = 0; k < more; k++) {
            s.append(kind).append(" x").append((char) ('a' + k)).append(kind.equals("end") ? " 1;" : ";");
        }
        return s.toString();
    }

    private String drawnPart() {
        String[] parts = {
            " ", ";", "max ", "min ", "end ", "way ", "chance ", "a", "b", "0", "1", "4", "10", "123", " 2", " 1;", "!",
            "" + (char) 0, "" + (char) 200, "\n", "end zz 9;", "max zz;", "chance zz;way zz zz;", "way a b 3;"};
        return parts[random.nextInt(parts.length)];
    }
}
