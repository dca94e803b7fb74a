import java.util.List;

/** Promises 4 to 13 against a model that lists all trees, over grammars drawn by a fixed seed. */
public final class ModelTest {
    private static final int GRAMMARS = 3000;
    private static final int DENSE = 300;
    // Where a row has more trees, only the first of them are listed, more than are told.
    private static final long MOST_LISTED = 3000;
    private static final int FIRST = 20;

    public static void main(String[] args) {
        Draw draw = new Draw(20261115);
        for (int k = 0; k < GRAMMARS; k++) {
            compare(draw.text(), draw.row(draw.below(7)));
            compare(draw.richText(), draw.row(1 + draw.below(6)));
            String changed = draw.changed(draw.richText());
            Check.loads(changed, new Model(changed).fault);
        }
        for (int k = 0; k < DENSE; k++) {
            compare(draw.denseText(), draw.row(4 + draw.below(3)));
        }
        Check.end();
    }

    private static void compare(String text, String row) {
        Model model = new Model(text);
        Check.loads(text, model.fault);
        if (model.fault != 0) {
            return;
        }
        compareRules(Check.loaded(text, row), model);
        compareWays(Check.loaded(text, row), model, row);
        long trees = Check.loaded(text, row).trees();
        if (trees <= MOST_LISTED) {
            compareTrees(text, row, model.ranked(row));
            Check.same("trees", trees, model.ranked(row).size());
        } else {
            compareTrees(text, row, model.firstTrees(row, FIRST));
        }
    }

    private static void compareRules(RankedTrees x, Model model) {
        Check.same("rules", x.rules(), model.heads.size());
        for (int k = 0; k < model.heads.size(); k++) {
            String body = model.bodies.get(k);
            Check.same("head", x.rule(k, 0), model.heads.get(k).charAt(0));
            for (int part = 0; part < 3; part++) {
                int want = part < body.length() ? body.charAt(part) : 0;
                Check.same("symbol", x.rule(k, part + 1), want);
            }
            Check.same("weight of a rule", x.rule(k, 4), model.weights.get(k));
            Check.same("useful", x.rule(k, 5), model.useful.contains(k) ? 1 : 0);
        }
    }

    private static void compareWays(RankedTrees x, Model model, String row) {
        for (int from = 0; from < row.length(); from++) {
            for (int to = from + 1; to <= row.length(); to++) {
                for (char letter = 'A'; letter <= 'E'; letter++) {
                    long want = model.count(row, letter, from, to);
                    Check.same("ways", x.ways(letter, from, to), want);
                }
            }
        }
    }

    // Each tree is asked of an object of its own: an object is good for 512 calls.
    private static void compareTrees(String text, String row, List<Model.Tree> ranked) {
        for (int k = 0; k < 8; k++) {
            RankedTrees x = Check.loaded(text, row);
            int rank = k;
            if (k < ranked.size()) {
                compareTree(x, k, ranked.get(k));
            } else {
                Check.refused("weight(" + k + ")", Check.ELEMENT, () -> x.weight(rank));
            }
        }
    }

    private static void compareTree(RankedTrees x, int k, Model.Tree tree) {
        Check.same("weight", x.weight(k), tree.weight());
        Check.same("size", x.size(k), tree.rules().size());
        for (int i = 0; i < tree.rules().size(); i++) {
            for (int what = 0; what < 3; what++) {
                Check.same("at", x.at(k, i, what), tree.rules().get(i)[what]);
            }
        }
    }
}
