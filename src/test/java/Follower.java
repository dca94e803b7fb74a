import java.util.List;
import java.util.NoSuchElementException;

/** An object as the document tells it, in the plainest form, over a Model of its grammar. */
final class Follower {
    // Where a row has more trees, only the first of them are listed, more than are told.
    private static final long MOST_LISTED = 2000;
    private static final int FIRST = 20;

    String text = "";
    String row = "";
    private Model grammar;
    private List<Model.Tree> ranked;

    boolean write(long characters) {
        StringBuilder more = new StringBuilder(text);
        for (int place = 0; place < 8; place++) {
            int code = (int) (characters >>> (8 * place) & 255);
            if (code != 0 && (code < 32 || code > 126)) {
                return false;
            }
            more.append(code == 0 ? "" : String.valueOf((char) code));
        }
        if (more.length() > 240) {
            return false;
        }
        text = more.toString();
        return true;
    }

    void wipe() {
        text = "";
    }

    int load() {
        Model read = new Model(text);
        if (read.fault == 0) {
            grammar = read;
            ranked = null;
        }
        return read.fault;
    }

    int rules() {
        return grammar == null ? 0 : grammar.heads.size();
    }

    int rule(int k, int what) {
        if (k < 0 || k >= rules()) {
            throw new IndexOutOfBoundsException();
        }
        String body = grammar.bodies.get(k);
        return switch (what) {
            case 0 -> grammar.heads.get(k).charAt(0);
            case 1, 2, 3 -> what <= body.length() ? body.charAt(what - 1) : 0;
            case 4 -> grammar.weights.get(k);
            case 5 -> grammar.useful.contains(k) ? 1 : 0;
            default -> throw new IllegalArgumentException();
        };
    }

    int token(char c) {
        if (c < 'a' || c > 'z') {
            throw new IllegalArgumentException();
        }
        if (row.length() == 6) {
            throw new IllegalStateException();
        }
        row += c;
        ranked = null;
        return row.length();
    }

    int drop() {
        int had = row.length();
        row = "";
        ranked = null;
        return had;
    }

    long trees() {
        needGrammar();
        return row.isEmpty() ? 0 : treesOf(row);
    }

    long ways(char letter, int from, int to) {
        needGrammar();
        if (letter < 'A' || letter > 'E') {
            throw new IllegalArgumentException();
        }
        if (from < 0 || from >= to || to > row.length()) {
            throw new IndexOutOfBoundsException();
        }
        return grammar.count(row, letter, from, to);
    }

    int weight(int k) {
        return tree(k).weight();
    }

    int size(int k) {
        return tree(k).rules().size();
    }

    int at(int k, int i, int what) {
        needGrammar();
        if (what < 0 || what > 2) {
            throw new IllegalArgumentException();
        }
        List<int[]> rules = tree(k).rules();
        if (i < 0 || i >= rules.size()) {
            throw new IndexOutOfBoundsException();
        }
        return rules.get(i)[what];
    }

    long treesOf(String tokens) {
        return grammar == null ? 0
                : grammar.count(tokens, grammar.heads.get(0).charAt(0), 0, tokens.length());
    }

    private void needGrammar() {
        if (grammar == null) {
            throw new IllegalStateException();
        }
    }

    private Model.Tree tree(int k) {
        needGrammar();
        if (k < 0 || k > 7) {
            throw new IllegalArgumentException();
        }
        if (ranked == null) {
            boolean many = trees() > MOST_LISTED;
            ranked = many ? grammar.firstTrees(row, FIRST) : grammar.ranked(row);
        }
        if (k >= ranked.size()) {
            throw new NoSuchElementException();
        }
        return ranked.get(k);
    }
}
