import java.util.NoSuchElementException;

/**
 * Reads grammars with weights and ranks the ways in which a short row of tokens can be derived.
 */
public final class RankedTrees {
    /** load(): a letter comes to itself. */
    public static final int ROUND = -1000;

    private static final int MOST_CHARACTERS = 240;
    private static final int MOST_RULES = 14;
    private static final int MOST_SYMBOLS = 3;
    private static final int MOST_DIGITS = 3;
    private static final int MOST_TOKENS = 6;
    private static final int LETTERS = 5;
    private static final int ALL_LETTERS = (1 << LETTERS) - 1;
    private static final int RANKS = 8;
    private static final int SPANS = MOST_TOKENS * (MOST_TOKENS + 1) / 2;
    private static final int CELLS = SPANS * LETTERS;

    private final Text text;
    private final Reader reader;
    private final Row row;
    private final Chart chart;
    private Grammar grammar;
    // load() reads into a grammar of its own, so that a text that is not good changes nothing.
    private Grammar spare;

    public RankedTrees() {
        text = new Text();
        reader = new Reader(text);
        row = new Row();
        grammar = new Grammar();
        spare = new Grammar();
        chart = new Chart(row, grammar);
    }

    public boolean write(long characters) {
        return text.add(characters);
    }

    public void wipe() {
        text.length = 0;
    }

    public int load() {
        int fault = reader.readInto(spare);
        if (fault != 0) {
            return fault;
        }
        spare.markUseful();
        if (!spare.orderUseful()) {
            return ROUND;
        }
        Grammar old = grammar;
        grammar = spare;
        spare = old;
        chart.restart(grammar);
        return 0;
    }

    public int rules() {
        return grammar.count;
    }

    public int rule(int k, int what) throws IndexOutOfBoundsException, IllegalArgumentException {
        if (k < 0 || k >= grammar.count) {
            throw new IndexOutOfBoundsException("no such rule");
        }
        switch (what) {
            case 0:
                return grammar.heads[k];
            case 1:
            case 2:
            case 3:
                return grammar.symbol(k, what - 1);
            case 4:
                return grammar.weights[k];
            case 5:
                return grammar.useful[k] ? 1 : 0;
            default:
                throw new IllegalArgumentException("what is not 0 .. 5");
        }
    }

    public int token(char c) throws IllegalArgumentException, IllegalStateException {
        if (!isToken(c)) {
            throw new IllegalArgumentException("no token");
        }
        if (row.length >= MOST_TOKENS) {
            throw new IllegalStateException("the row is full");
        }
        row.tokens[row.length] = c;
        row.length++;
        return row.length;
    }

    public int drop() {
        int had = row.length;
        row.length = 0;
        chart.restart(grammar);
        return had;
    }

    public long trees() throws IllegalStateException {
        needGrammar();
        if (row.length == 0) {
            return 0;
        }
        chart.complete();
        return chart.counts[startCell()];
    }

    public long ways(char letter, int from, int to)
            throws IllegalStateException, IllegalArgumentException, IndexOutOfBoundsException {
        needGrammar();
        if (!isLetter(letter)) {
            throw new IllegalArgumentException("no letter");
        }
        if (from < 0 || to > row.length || from >= to) {
            throw new IndexOutOfBoundsException("no span of the row");
        }
        chart.complete();
        return chart.counts[cellOf(letter, from, to)];
    }

    public int weight(int k)
            throws IllegalStateException, IllegalArgumentException, NoSuchElementException {
        return chart.forest.weights[rankedTree(k)];
    }

    public int size(int k)
            throws IllegalStateException, IllegalArgumentException, NoSuchElementException {
        return chart.forest.sizes[rankedTree(k)];
    }

    public int at(int k, int i, int what)
            throws IllegalStateException, IllegalArgumentException, NoSuchElementException,
            IndexOutOfBoundsException {
        needGrammar();
        if (what < 0 || what > 2) {
            throw new IllegalArgumentException("what is not 0 .. 2");
        }
        int whole = rankedTree(k);
        if (i < 0 || i >= chart.forest.sizes[whole]) {
            throw new IndexOutOfBoundsException("the tree has no such rule");
        }
        int tree = chart.forest.partAt(whole, i);
        if (what == 0) {
            return chart.forest.ownRules[tree];
        }
        return what == 1 ? fromOf(tree) : toOf(tree);
    }

    private void needGrammar() {
        if (grammar.count == 0) {
            throw new IllegalStateException("there is no grammar");
        }
    }

    private int rankedTree(int k) {
        needGrammar();
        if (k < 0 || k >= RANKS) {
            throw new IllegalArgumentException("k is not 0 .. 7");
        }
        if (row.length == 0) {
            throw new NoSuchElementException("the row is empty");
        }
        chart.complete();
        int cell = startCell();
        if (k >= chart.kept[cell]) {
            throw new NoSuchElementException("the row has fewer trees");
        }
        return cell * RANKS + k;
    }

    private int startCell() {
        return cellOf(grammar.heads[0], 0, row.length);
    }

    private static boolean isLetter(int code) {
        return code >= 'A' && code < 'A' + LETTERS;
    }

    private static boolean isToken(int code) {
        return code >= 'a' && code <= 'z';
    }

    private static boolean isDigit(int code) {
        return code >= '0' && code <= '9';
    }

    private static int bitOf(int letter) {
        return 1 << (letter - 'A');
    }

    // Spans are numbered by their ends, those with the same end by their beginnings.
    private static int cellOf(int letter, int from, int to) {
        return (spansBefore(to) + from) * LETTERS + letter - 'A';
    }

    private static int spansBefore(int to) {
        return to * (to - 1) / 2;
    }

    // A tree's number tells its cell, and with it its span: neither has to be kept beside it.
    private static int fromOf(int tree) {
        return tree / (RANKS * LETTERS) - spansBefore(toOf(tree));
    }

    private static int toOf(int tree) {
        int span = tree / (RANKS * LETTERS);
        int to = 1;
        while (to < MOST_TOKENS && spansBefore(to + 1) <= span) {
            to++;
        }
        return to;
    }

    /** The text as it has been written. */
    private static final class Text {
        final char[] characters = new char[MOST_CHARACTERS];
        int length;

        boolean add(long bytes) {
            int end = length;
            for (int shift = 0; shift < 64; shift += 8) {
                int code = (int) (bytes >>> shift) & 255;
                if (code == 0) {
                    continue;
                }
                if (code < 32 || code > 126 || end >= MOST_CHARACTERS) {
                    return false;
                }
                characters[end] = (char) code;
                end++;
            }
            length = end;
            return true;
        }
    }

    /** Goes through the text once for each load. */
    private static final class Reader {
        final Text text;
        int place;

        Reader(Text text) {
            this.text = text;
        }

        /** 0, or -k when the k-th rule is the first that is not as it must be. */
        int readInto(Grammar grammar) {
            grammar.count = 0;
            place = 0;
            for (int k = 1; k <= MOST_RULES; k++) {
                if (!readRule(grammar)) {
                    return -k;
                }
                if (place >= text.length) {
                    return 0;
                }
            }
            return -(MOST_RULES + 1);
        }

        private boolean readRule(Grammar grammar) {
            int rule = grammar.count;
            int head = take();
            if (!isLetter(head) || take() != '=' || !readBody(grammar, rule)) {
                return false;
            }
            int weight = readWeight();
            if (weight < 0 || take() != ';') {
                return false;
            }
            grammar.heads[rule] = head;
            grammar.weights[rule] = weight;
            grammar.count++;
            return !grammar.hasTwinBefore(rule);
        }

        private boolean readBody(Grammar grammar, int rule) {
            int parts = 0;
            while (parts < MOST_SYMBOLS && (isLetter(peek()) || isToken(peek()))) {
                grammar.symbols[rule * MOST_SYMBOLS + parts] = take();
                parts++;
            }
            // A grammar's rows are used again: what an older text left there must go.
            for (int p = parts; p < MOST_SYMBOLS; p++) {
                grammar.symbols[rule * MOST_SYMBOLS + p] = 0;
            }
            grammar.lengths[rule] = parts;
            return parts > 0;
        }

        /** -1 when there is a ':' without a digit behind it. */
        private int readWeight() {
            if (peek() != ':') {
                return 1;
            }
            take();
            int weight = 0;
            int digits = 0;
            while (digits < MOST_DIGITS && isDigit(peek())) {
                weight = weight * 10 + take() - '0';
                digits++;
            }
            return digits == 0 ? -1 : weight;
        }

        /** 0 at the end of the text, where no character has that code. */
        private int peek() {
            return place < text.length ? text.characters[place] : 0;
        }

        private int take() {
            int code = peek();
            if (place < text.length) {
                place++;
            }
            return code;
        }
    }

    /** The rules as they were read, and what follows from them; without a rule it is no grammar. */
    private static final class Grammar {
        int count;
        final int[] heads = new int[MOST_RULES];
        final int[] symbols = new int[MOST_RULES * MOST_SYMBOLS];
        final int[] lengths = new int[MOST_RULES];
        final int[] weights = new int[MOST_RULES];
        final boolean[] useful = new boolean[MOST_RULES];
        final int[] order = new int[MOST_RULES];
        int ordered;

        int symbol(int rule, int part) {
            return symbols[rule * MOST_SYMBOLS + part];
        }

        boolean hasTwinBefore(int rule) {
            for (int other = 0; other < rule; other++) {
                if (heads[other] == heads[rule]
                        && symbol(other, 0) == symbol(rule, 0)
                        && symbol(other, 1) == symbol(rule, 1)
                        && symbol(other, 2) == symbol(rule, 2)) {
                    return true;
                }
            }
            return false;
        }

        void markUseful() {
            int fertile = fertileLetters();
            int reached = bitOf(heads[0]);
            for (int rule = 0; rule < count; rule++) {
                useful[rule] = false;
            }
            // Every round but the last reaches a new letter, or there is none to reach.
            for (int round = 0; round < LETTERS; round++) {
                for (int rule = 0; rule < count; rule++) {
                    int letters = lettersIn(rule);
                    if ((reached & bitOf(heads[rule])) != 0 && (letters & ~fertile) == 0) {
                        useful[rule] = true;
                        reached |= letters;
                    }
                }
            }
        }

        /** The letters for which there is a tree at all, one bit each. */
        private int fertileLetters() {
            int fertile = 0;
            for (int round = 0; round < LETTERS; round++) {
                for (int rule = 0; rule < count; rule++) {
                    if ((lettersIn(rule) & ~fertile) == 0) {
                        fertile |= bitOf(heads[rule]);
                    }
                }
            }
            return fertile;
        }

        private int lettersIn(int rule) {
            int letters = 0;
            for (int part = 0; part < lengths[rule]; part++) {
                if (isLetter(symbol(rule, part))) {
                    letters |= bitOf(symbol(rule, part));
                }
            }
            return letters;
        }

        /**
         * Orders the useful rules so that those of a letter stand before every body of this letter
         * alone, for that one has the same span; false when a letter comes to itself.
         */
        boolean orderUseful() {
            int settled = 0;
            ordered = 0;
            for (int round = 0; round < LETTERS; round++) {
                for (int letter = 'A'; letter < 'A' + LETTERS; letter++) {
                    if ((settled & bitOf(letter)) == 0 && (aloneUnder(letter) & ~settled) == 0) {
                        settled |= bitOf(letter);
                        appendUseful(letter);
                    }
                }
            }
            return settled == ALL_LETTERS;
        }

        private int aloneUnder(int letter) {
            int letters = 0;
            for (int rule = 0; rule < count; rule++) {
                if (useful[rule] && heads[rule] == letter && lengths[rule] == 1) {
                    letters |= lettersIn(rule);
                }
            }
            return letters;
        }

        private void appendUseful(int letter) {
            for (int rule = 0; rule < count; rule++) {
                if (useful[rule] && heads[rule] == letter && ordered < MOST_RULES) {
                    order[ordered] = rule;
                    ordered++;
                }
            }
        }
    }

    /** The row of tokens. */
    private static final class Row {
        final char[] tokens = new char[MOST_TOKENS];
        int length;
    }

    /** The trees that are kept, by number: RANKS for each cell, the first one in front. */
    private static final class Forest {
        static final int NONE = -1;
        static final int DRAFT = CELLS * RANKS;
        // Six spans one in the other with at most five letters each: no tree is deeper than 30.
        static final int DEEPEST = 40;

        final int[] ownRules = new int[DRAFT + 1];
        final int[] weights = new int[DRAFT + 1];
        final int[] sizes = new int[DRAFT + 1];
        final int[] children = new int[(DRAFT + 1) * MOST_SYMBOLS];

        void beginDraft(int rule, int weight) {
            ownRules[DRAFT] = rule;
            weights[DRAFT] = weight;
            sizes[DRAFT] = 1;
        }

        void addToDraft(int part, int child) {
            children[DRAFT * MOST_SYMBOLS + part] = child;
            if (child != NONE) {
                weights[DRAFT] += weights[child];
                sizes[DRAFT] += sizes[child];
            }
        }

        void copy(int source, int target) {
            ownRules[target] = ownRules[source];
            weights[target] = weights[source];
            sizes[target] = sizes[source];
            for (int part = 0; part < MOST_SYMBOLS; part++) {
                children[target * MOST_SYMBOLS + part] = children[source * MOST_SYMBOLS + part];
            }
        }

        boolean comesBefore(int tree, int other) {
            if (weights[tree] != weights[other]) {
                return weights[tree] < weights[other];
            }
            return compareRules(this, tree, other, 0) < 0;
        }

        // Of two trees for one letter neither's rules are just the beginning of the other's, so
        // the parts may be compared one by one, whatever their spans.
        private static int compareRules(Forest forest, int tree, int other, int depth) {
            if (tree == other || depth > DEEPEST) {
                return 0;
            }
            int found = forest.ownRules[tree] - forest.ownRules[other];
            for (int part = 0; part < MOST_SYMBOLS && found == 0; part++) {
                int child = forest.children[tree * MOST_SYMBOLS + part];
                int otherChild = forest.children[other * MOST_SYMBOLS + part];
                if (child != NONE && otherChild != NONE) {
                    found = compareRules(forest, child, otherChild, depth + 1);
                }
            }
            return found;
        }

        /** The tree whose own rule is the i-th of the rules of a tree. */
        int partAt(int whole, int i) {
            int tree = whole;
            int left = i;
            while (left > 0) {
                left--;
                int next = NONE;
                for (int part = 0; part < MOST_SYMBOLS && next == NONE; part++) {
                    int child = children[tree * MOST_SYMBOLS + part];
                    if (child != NONE && left < sizes[child]) {
                        next = child;
                    } else if (child != NONE) {
                        left -= sizes[child];
                    }
                }
                if (next == NONE) {
                    return tree;
                }
                tree = next;
            }
            return tree;
        }
    }

    /** How many trees each letter has for each span of the row, and the first of them. */
    private static final class Chart {
        final Row row;
        final Forest forest = new Forest();
        final long[] counts = new long[CELLS];
        final int[] kept = new int[CELLS];
        Grammar grammar;
        // The spans that end at or before this place are done.
        int done;
        // The ends of the spans into which a rule divides its own, behind where the first begins.
        final int[] cuts = new int[MOST_SYMBOLS + 1];
        // Of each of these: how many trees there are to choose from, and the first of them.
        final int[] choices = new int[MOST_SYMBOLS];
        final int[] firsts = new int[MOST_SYMBOLS];

        Chart(Row row, Grammar grammar) {
            this.row = row;
            this.grammar = grammar;
        }

        void restart(Grammar newGrammar) {
            grammar = newGrammar;
            done = 0;
        }

        /** Does the spans that are new since the last time, each behind all that lie in it. */
        void complete() {
            for (int to = done + 1; to <= row.length; to++) {
                for (int from = to - 1; from >= 0; from--) {
                    clear(from, to);
                    for (int k = 0; k < grammar.ordered; k++) {
                        divide(grammar.order[k], from, to);
                    }
                }
            }
            done = row.length;
        }

        private void clear(int from, int to) {
            for (int letter = 'A'; letter < 'A' + LETTERS; letter++) {
                int cell = cellOf(letter, from, to);
                counts[cell] = 0;
                kept[cell] = 0;
            }
        }

        private void divide(int rule, int from, int to) {
            int parts = grammar.lengths[rule];
            int cell = cellOf(grammar.heads[rule], from, to);
            cuts[0] = from;
            cuts[parts] = to;
            if (parts == 1) {
                join(rule, cell);
                return;
            }
            int lastCut = to - parts + 1;
            for (int cut = from + 1; cut <= lastCut; cut++) {
                cuts[1] = cut;
                if (parts == 2) {
                    join(rule, cell);
                    continue;
                }
                for (int second = cut + 1; second < to; second++) {
                    cuts[2] = second;
                    join(rule, cell);
                }
            }
        }

        private void join(int rule, int cell) {
            long product = 1;
            for (int part = 0; part < MOST_SYMBOLS; part++) {
                product *= choose(rule, part);
            }
            if (product == 0) {
                return;
            }
            counts[cell] += product;
            // A later choice makes a later tree: where one finds no room, none behind it does.
            for (int a = 0; a < choices[0]; a++) {
                int open = choices[2];
                for (int b = 0; b < choices[1] && open > 0; b++) {
                    int c = 0;
                    while (c < open && offer(rule, cell, a, b, c)) {
                        c++;
                    }
                    open = c;
                    if (b == 0 && open == 0) {
                        return;
                    }
                }
            }
        }

        /** How many trees the part may have; a token, or a part that is not there, has one way. */
        private long choose(int rule, int part) {
            choices[part] = 1;
            firsts[part] = Forest.NONE;
            if (part >= grammar.lengths[rule]) {
                return 1;
            }
            int symbol = grammar.symbol(rule, part);
            int from = cuts[part];
            int to = cuts[part + 1];
            if (!isLetter(symbol)) {
                return to - from == 1 && row.tokens[from] == symbol ? 1 : 0;
            }
            int cell = cellOf(symbol, from, to);
            choices[part] = kept[cell];
            firsts[part] = cell * RANKS;
            return counts[cell];
        }

        /** Ranks the tree with these choices among those kept; false when there is no room. */
        private boolean offer(int rule, int cell, int a, int b, int c) {
            forest.beginDraft(rule, grammar.weights[rule]);
            forest.addToDraft(0, chosen(0, a));
            forest.addToDraft(1, chosen(1, b));
            forest.addToDraft(2, chosen(2, c));
            int first = cell * RANKS;
            int rank = kept[cell];
            while (rank > 0 && forest.comesBefore(Forest.DRAFT, first + rank - 1)) {
                rank--;
            }
            if (rank >= RANKS) {
                return false;
            }
            if (kept[cell] < RANKS) {
                kept[cell]++;
            }
            for (int k = kept[cell] - 1; k > rank; k--) {
                forest.copy(first + k - 1, first + k);
            }
            forest.copy(Forest.DRAFT, first + rank);
            return true;
        }

        private int chosen(int part, int choice) {
            return firsts[part] == Forest.NONE ? Forest.NONE : firsts[part] + choice;
        }
    }
}
