/**
 * All that an object shows, as one text: where two objects have the same text, no later call tells
 * them apart. Each portrait is taken within the 512 calls that an object is good for.
 */
final class Portrait {
    private Portrait() {
    }

    /** The grammar and the row's trees; the object is the same behind it. */
    static String seen(RankedTrees x) {
        return rulesOf(x) + "\n" + countsOf(x) + "\n" + treesOf(x);
    }

    /**
     * The text and the row as well, by using them up: the text is loaded as it is and with more
     * behind it, and both are filled until they are full.
     */
    static String spent(RankedTrees x, String behind) {
        StringBuilder all = new StringBuilder();
        all.append("load ").append(x.load()).append(", rules ").append(x.rules());
        all.append(", written ").append(x.write(Check.packed(behind)));
        all.append(", load ").append(x.load()).append('\n').append(seen(x));
        all.append("\nroom for ").append(roomOfText(x)).append(" characters");
        all.append(" and ").append(roomOfRow(x)).append(" tokens");
        all.append(", drop ").append(x.drop());
        return all.toString();
    }

    static int roomOfText(RankedTrees x) {
        int room = 0;
        while (room <= 240 && x.write(Check.packed("        "))) {
            room += 8;
        }
        while (room <= 240 && x.write(Check.packed(" "))) {
            room++;
        }
        return room;
    }

    static int roomOfRow(RankedTrees x) {
        int room = 0;
        while (room <= 6 && !Check.answer(() -> x.token('a')).startsWith("throws")) {
            room++;
        }
        return room;
    }

    private static String rulesOf(RankedTrees x) {
        int rules = x.rules();
        StringBuilder all = new StringBuilder("rules " + rules + ":");
        for (int k = 0; k < rules; k++) {
            for (int what = 0; what <= 5; what++) {
                all.append(what == 0 ? " | " : " ").append(x.rule(k, what));
            }
        }
        return all.toString();
    }

    private static String countsOf(RankedTrees x) {
        StringBuilder all = new StringBuilder("trees " + Check.answer(x::trees) + ", ways:");
        for (char letter = 'A'; letter <= 'E'; letter++) {
            for (int to = 1; to <= 6; to++) {
                for (int from = 0; from < to; from++) {
                    all.append(' ').append(waysOf(x, letter, from, to));
                }
            }
        }
        return all.toString();
    }

    private static String waysOf(RankedTrees x, char letter, int from, int to) {
        return Check.answer(() -> x.ways(letter, from, to));
    }

    private static String treesOf(RankedTrees x) {
        StringBuilder all = new StringBuilder();
        for (int k = 0; k <= 7; k++) {
            int rank = k;
            String weight = Check.answer(() -> x.weight(rank));
            all.append("weight ").append(weight);
            all.append(weight.startsWith("throws") ? "\n" : ": " + Check.tree(x, k) + "\n");
        }
        return all.toString();
    }
}
