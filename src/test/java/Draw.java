import java.util.LinkedHashSet;
import java.util.Random;
import java.util.Set;

/** Texts, numbers and characters drawn by a fixed seed, many of them at an edge. */
final class Draw {
    private final Random random;

    Draw(long seed) {
        random = new Random(seed);
    }

    int below(int bound) {
        return random.nextInt(bound);
    }

    boolean oneIn(int bound) {
        return random.nextInt(bound) == 0;
    }

    /** Rules over few letters and two tokens; most are good. */
    String text() {
        int letters = 1 + below(5);
        int heaviest = 1 + below(4);
        StringBuilder text = new StringBuilder();
        int rules = 1 + below(oneIn(8) ? 16 : 9);
        for (int k = 0; k < rules; k++) {
            text.append((char) ('A' + below(letters))).append('=');
            for (int parts = 1 + below(3); parts > 0; parts--) {
                boolean letter = below(5) < 2;
                text.append((char) (letter ? 'A' + below(letters) : 'a' + below(2)));
            }
            if (oneIn(2)) {
                text.append(':').append(below(heaviest));
            }
            text.append(oneIn(150) ? "" : ";");
        }
        return text.toString();
    }

    /** Good rules, with a tree for each letter, and many trees for most rows. */
    String richText() {
        int letters = 1 + below(4);
        int heaviest = 1 + below(5);
        Set<String> rules = new LinkedHashSet<>();
        for (int letter = 0; letter < letters; letter++) {
            rules.add((char) ('A' + letter) + "=" + token());
        }
        for (int more = 2 + below(9); more > 0; more--) {
            int head = below(letters);
            String body = oneIn(3) ? alone(head, letters) : oneIn(2) ? symbol(letters)
                    + symbol(letters) : symbol(letters) + symbol(letters) + symbol(letters);
            rules.add((char) ('A' + head) + "=" + body);
        }
        StringBuilder text = new StringBuilder();
        for (String rule : rules) {
            text.append(rule).append(oneIn(2) ? "" : ":" + below(heaviest)).append(';');
        }
        return text.toString();
    }

    /** Rules by which most rows have trees by the thousand, and many of the same weight. */
    String denseText() {
        int letters = 3 + below(3);
        int heaviest = 1 + below(4);
        Set<String> rules = new LinkedHashSet<>();
        for (int letter = 0; letter < letters; letter++) {
            for (int other = letter + 1; other < letters; other++) {
                if (!oneIn(5)) {
                    rules.add((char) ('A' + letter) + "=" + (char) ('A' + other));
                }
            }
        }
        String last = (char) ('A' + letters - 1) + "=";
        rules.add(last + "a");
        rules.add(last + "b");
        rules.add(last + "AA");
        while (rules.size() < 14) {
            String head = (char) ('A' + below(letters)) + "=";
            rules.add(head + symbol(letters) + symbol(letters) + (oneIn(2) ? symbol(letters) : ""));
        }
        StringBuilder text = new StringBuilder();
        for (String rule : rules) {
            text.append(rule).append(':').append(below(heaviest)).append(';');
        }
        return text.toString();
    }

    /** The text with one character more, one less, or another one in its place. */
    String changed(String text) {
        String characters = "AEFaz:;;==019 ";
        String one = String.valueOf(characters.charAt(below(characters.length())));
        int place = below(text.length());
        int kind = below(3);
        String behind = text.substring(kind == 0 ? place : place + 1);
        return text.substring(0, place) + (kind == 1 ? "" : one) + behind;
    }

    // Only later letters stand alone, so that none comes to itself.
    private String alone(int head, int letters) {
        boolean last = head == letters - 1;
        return last ? token() : String.valueOf((char) ('B' + head + below(letters - 1 - head)));
    }

    private String symbol(int letters) {
        return below(3) > 0 ? String.valueOf((char) ('A' + below(letters))) : token();
    }

    private String token() {
        return oneIn(2) ? "a" : "b";
    }

    String row(int tokens) {
        StringBuilder row = new StringBuilder();
        for (int k = 0; k < tokens; k++) {
            row.append(token());
        }
        return row.toString();
    }

    /** Mostly a number in these bounds, now and then one beside or far from them. */
    int near(int least, int most) {
        if (oneIn(80)) {
            int[] far = {Integer.MIN_VALUE, Integer.MAX_VALUE, -1000, 1000};
            return far[below(far.length)];
        }
        return oneIn(12) ? (oneIn(2) ? least - 1 : most + 1) : least + below(most - least + 1);
    }

    /** Mostly a character in these bounds, now and then one beside or far from them. */
    char near(char least, char most) {
        return (char) (oneIn(80) ? below(65536) : near((int) least, (int) most));
    }

    /** Eight bytes of which some are 0, and a few no characters. */
    long bytes() {
        long bytes = 0;
        for (int place = 0; place < 8; place++) {
            int code = oneIn(60) ? below(256) : oneIn(3) ? 0 : 32 + below(95);
            bytes |= (long) code << (8 * place);
        }
        return bytes;
    }
}
