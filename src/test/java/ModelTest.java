import java.util.List;
import java.util.Random;

/** Promises 4 to 13 against a model that lists all trees, over grammars drawn by a fixed seed. */
public final class ModelTest {
    private static final int OBJECTS = 1500;
    private static final long MOST_TREES = 3000;

    private static final Random RANDOM = new Random(20261115);

    public static void main(String[] args) {
        for (int k = 0; k < OBJECTS; k++) {
            followOneObject();
        }
        Check.end();
    }

    // One object lives through several texts and rows, so that nothing old may shine through.
    private static void followOneObject() {
        RankedTrees x = new RankedTrees();
        Model model = null;
        String row = "";
        for (int step = 0; step < 6; step++) {
            if (RANDOM.nextInt(3) > 0) {
                String text = drawText();
                Model read = new Model(text);
                Check.same("load of " + text, Check.load(x, text), read.fault);
                model = read.fault == 0 ? read : model;
            }
            if (RANDOM.nextInt(3) == 0) {
                Check.same("drop", x.drop(), row.length());
                row = "";
            }
            for (int more = RANDOM.nextInt(4); more > 0 && row.length() < 6; more--) {
                row += (char) ('a' + RANDOM.nextInt(2));
                Check.same("token", x.token(row.charAt(row.length() - 1)), row.length());
            }
            if (model != null) {
                compareRules(x, model);
                compareTrees(x, model, row);
            }
        }
    }

    private static String drawText() {
        int letters = 1 + RANDOM.nextInt(5);
        int heaviest = 1 + RANDOM.nextInt(4);
        StringBuilder text = new StringBuilder();
        int rules = 1 + RANDOM.nextInt(RANDOM.nextInt(8) == 0 ? 16 : 9);
        for (int k = 0; k < rules; k++) {
            text.append((char) ('A' + RANDOM.nextInt(letters))).append('=');
            for (int parts = 1 + RANDOM.nextInt(3); parts > 0; parts--) {
                boolean letter = RANDOM.nextInt(5) < 2;
                text.append((char) (letter ? 'A' + RANDOM.nextInt(letters) : 'a' + RANDOM.nextInt(2)));
            }
            if (RANDOM.nextInt(2) == 0) {
                text.append(':').append(RANDOM.nextInt(heaviest));
            }
            text.append(RANDOM.nextInt(150) == 0 ? "" : ";");
        }
        return text.toString();
    }

    private static void compareRules(RankedTrees x, Model model) {
        Check.same("rules", x.rules(), model.heads.size());
        for (int k = 0; k < model.heads.size(); k++) {
            String body = model.bodies.get(k);
            Check.same("head", x.rule(k, 0), model.heads.get(k).charAt(0));
            for (int part = 0; part < 3; part++) {
                int want = part < body.length() ? body.charAt(part) : 0;
                Check.same("symbol", x.rule(k, part + 1), want);
            }
            Check.same("weight of a rule", x.rule(k, 4), model.weights.get(k));
            Check.same("useful", x.rule(k, 5), model.useful.contains(k) ? 1 : 0);
        }
    }

    private static void compareTrees(RankedTrees x, Model model, String row) {
        for (int from = 0; from < row.length(); from++) {
            for (int to = from + 1; to <= row.length(); to++) {
                for (char letter = 'A'; letter <= 'E'; letter++) {
                    Check.same("ways", x.ways(letter, from, to), model.count(row, letter, from, to));
                }
            }
        }
        if (x.trees() > MOST_TREES) {
            return;
        }
        List<Model.Tree> ranked = model.ranked(row);
        Check.same("trees", x.trees(), ranked.size());
        for (int k = 0; k < 8; k++) {
            int rank = k;
            if (k < ranked.size()) {
                compareTree(x, k, ranked.get(k));
            } else {
                Check.refused("weight(" + k + ")", Check.ELEMENT, () -> x.weight(rank));
            }
        }
    }

    private static void compareTree(RankedTrees x, int k, Model.Tree tree) {
        Check.same("weight", x.weight(k), tree.weight());
        Check.same("size", x.size(k), tree.rules().size());
        for (int i = 0; i < tree.rules().size(); i++) {
            for (int what = 0; what < 3; what++) {
                Check.same("at", x.at(k, i, what), tree.rules().get(i)[what]);
            }
        }
    }
}
