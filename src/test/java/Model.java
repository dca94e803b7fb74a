import java.util.ArrayList;
import java.util.Arrays;
import java.util.HashMap;
import java.util.HashSet;
import java.util.List;
import java.util.Map;
import java.util.Set;
import java.util.regex.Matcher;
import java.util.regex.Pattern;

/** The document once more, by listing all trees; slow, and made otherwise than the program. */
final class Model {
    /** A tree as the list of its rules with their spans. */
    record Tree(int weight, List<int[]> rules) {
    }

    private static final Pattern RULE =
            Pattern.compile("([A-E])=([A-Ea-z]{1,3})(?::([0-9]{1,3}))?;");
    // A tree that shows that a rule is useful needs no letter twice on the way to it or below.
    private static final int HEIGHT = 12;

    final List<String> heads = new ArrayList<>();
    final List<String> bodies = new ArrayList<>();
    final List<Integer> weights = new ArrayList<>();
    Set<Integer> useful = new HashSet<>();
    int fault;
    // By letter and tokens.
    private final Map<String, Long> counts = new HashMap<>();
    // Those of the row that is asked for, by letter, from and to.
    private final Map<String, List<Tree>> known = new HashMap<>();

    Model(String text) {
        fault = read(text);
        if (fault == 0) {
            useful = rulesUnder(heads.get(0), HEIGHT);
            fault = comesRound() ? RankedTrees.ROUND : 0;
        }
    }

    private int read(String text) {
        Matcher matcher = RULE.matcher(text);
        int place = 0;
        Set<String> seen = new HashSet<>();
        do {
            boolean there = matcher.find(place) && matcher.start() == place;
            if (!there || heads.size() == 14 || !seen.add(matcher.group(1) + matcher.group(2))) {
                return -(heads.size() + 1);
            }
            heads.add(matcher.group(1));
            bodies.add(matcher.group(2));
            weights.add(matcher.group(3) == null ? 1 : Integer.parseInt(matcher.group(3)));
            place = matcher.end();
        } while (place < text.length());
        return 0;
    }

    /** The rules of all trees for a letter that are no higher; none when there is no such tree. */
    private Set<Integer> rulesUnder(String letter, int height) {
        return rulesUnder(letter, height, new ArrayList<>());
    }

    private Set<Integer> rulesUnder(String letter, int height, List<List<Set<Integer>>> known) {
        for (int h = 0; h <= height; h++) {
            List<Set<Integer>> level = new ArrayList<>();
            for (char head = 'A'; head <= 'E'; head++) {
                level.add(h == 0 ? Set.of() : oneHigher(String.valueOf(head), known.get(h - 1)));
            }
            known.add(level);
        }
        return known.get(height).get(letter.charAt(0) - 'A');
    }

    private Set<Integer> oneHigher(String head, List<Set<Integer>> lower) {
        Set<Integer> found = new HashSet<>();
        for (int k = 0; k < heads.size(); k++) {
            Set<Integer> under = new HashSet<>(Set.of(k));
            boolean whole = heads.get(k).equals(head);
            for (char symbol : bodies.get(k).toCharArray()) {
                if (Character.isUpperCase(symbol)) {
                    whole &= !lower.get(symbol - 'A').isEmpty();
                    under.addAll(lower.get(symbol - 'A'));
                }
            }
            if (whole) {
                found.addAll(under);
            }
        }
        return found;
    }

    private boolean comesRound() {
        for (char letter = 'A'; letter <= 'E'; letter++) {
            Set<String> now = new HashSet<>(Set.of(String.valueOf(letter)));
            for (int step = 0; step < 5; step++) {
                Set<String> next = new HashSet<>();
                for (int k : useful) {
                    if (now.contains(heads.get(k)) && bodies.get(k).matches("[A-E]")) {
                        next.add(bodies.get(k));
                    }
                }
                now = next;
                if (now.contains(String.valueOf(letter))) {
                    return true;
                }
            }
        }
        return false;
    }

    /** How many trees of useful rules there are. */
    long count(String row, char letter, int from, int to) {
        String key = letter + " " + row.substring(from, to);
        if (!counts.containsKey(key)) {
            counts.put(key, countAnew(row, letter, from, to));
        }
        return counts.get(key);
    }

    private long countAnew(String row, char letter, int from, int to) {
        long sum = 0;
        for (int k : useful) {
            if (heads.get(k).charAt(0) == letter) {
                sum += countParts(row, bodies.get(k), from, to);
            }
        }
        return sum;
    }

    private long countParts(String row, String body, int from, int to) {
        if (body.isEmpty() || to - from < body.length()) {
            return body.isEmpty() && from == to ? 1 : 0;
        }
        char symbol = body.charAt(0);
        String rest = body.substring(1);
        if (Character.isLowerCase(symbol)) {
            return row.charAt(from) == symbol ? countParts(row, rest, from + 1, to) : 0;
        }
        long sum = 0;
        for (int cut = rest.isEmpty() ? to : from + 1; cut <= to - rest.length(); cut++) {
            long later = countParts(row, rest, cut, to);
            sum += later * count(row, symbol, from, cut);
        }
        return sum;
    }

    /** All trees of the row, the first one in front. */
    List<Tree> ranked(String row) {
        return firstTrees(row, Integer.MAX_VALUE);
    }

    /**
     * The first trees of a row that may have too many to list them all: of each part's trees, too,
     * no more than these are looked at, since one with a later part is behind as many others.
     */
    List<Tree> firstTrees(String row, int most) {
        known.clear();
        return row.isEmpty() ? List.of()
                : list(row, heads.get(0).charAt(0), new int[] {0, row.length()}, most);
    }

    private static int order(Tree one, Tree other) {
        if (one.weight() != other.weight()) {
            return one.weight() - other.weight();
        }
        return Arrays.compare(numbers(one), numbers(other));
    }

    private static int[] numbers(Tree tree) {
        return tree.rules().stream().mapToInt(rule -> rule[0]).toArray();
    }

    private List<Tree> list(String row, char letter, int[] span, int most) {
        String key = letter + " " + span[0] + " " + span[1];
        if (!known.containsKey(key)) {
            List<Tree> found = new ArrayList<>();
            for (int k : useful) {
                if (heads.get(k).charAt(0) == letter) {
                    int[] own = {k, span[0], span[1]};
                    Tree tree = new Tree(weights.get(k), List.of(own));
                    addParts(found, tree, row, bodies.get(k), span, most);
                }
            }
            found.sort(Model::order);
            known.put(key, found.subList(0, Math.min(found.size(), most)));
        }
        return known.get(key);
    }

    private void addParts(List<Tree> found, Tree before, String row, String body, int[] span,
            int most) {
        int from = span[0];
        int to = span[1];
        if (body.isEmpty() || to - from < body.length()) {
            if (body.isEmpty() && from == to) {
                found.add(before);
            }
            return;
        }
        String rest = body.substring(1);
        if (Character.isLowerCase(body.charAt(0))) {
            if (row.charAt(from) == body.charAt(0)) {
                addParts(found, before, row, rest, new int[] {from + 1, to}, most);
            }
            return;
        }
        for (int cut = rest.isEmpty() ? to : from + 1; cut <= to - rest.length(); cut++) {
            for (Tree part : list(row, body.charAt(0), new int[] {from, cut}, most)) {
                List<int[]> rules = new ArrayList<>(before.rules());
                rules.addAll(part.rules());
                Tree more = new Tree(before.weight() + part.weight(), rules);
                addParts(found, more, row, rest, new int[] {cut, to}, most);
            }
        }
    }
}
