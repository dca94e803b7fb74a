/** Promises 9 and 10: trees and ways. */
public final class CountTest {
    public static void main(String[] args) {
        treesOfGrowingRows();
        theStartIsTheHeadOfRule0();
        noTrees();
        lettersAlone();
        manyTrees();
        waysOfEachSpan();
        uselessRulesDoNotCount();
        wrongArguments();
        answersFollowTheState();
        Check.end();
    }

    private static void treesOfGrowingRows() {
        RankedTrees x = Check.loaded("A=AA;A=a;", "");
        long[] catalan = {0, 1, 1, 2, 5, 14, 42};
        Check.same("trees of an empty row", x.trees(), 0);
        for (int k = 1; k <= 6; k++) {
            x.token('a');
            Check.same("trees of " + k, x.trees(), catalan[k]);
        }
    }

    private static void theStartIsTheHeadOfRule0() {
        RankedTrees x = Check.loaded("C=cA;A=a;B=b;C=x;", "a");
        Check.same("trees of a", x.trees(), 0);
        Check.row(x, "ca");
        Check.same("trees of ca", x.trees(), 1);
        Check.row(x, "b");
        Check.same("trees of b", x.trees(), 0);
    }

    private static void noTrees() {
        Check.same("no tree for the letter", Check.loaded("A=AA;", "aa").trees(), 0);
        Check.same("a circle of no use", Check.loaded("A=A;", "a").trees(), 0);
        Check.same("another token", Check.loaded("A=a;", "b").trees(), 0);
        Check.same("a longer row", Check.loaded("A=a;", "aa").trees(), 0);
        Check.same("a shorter row", Check.loaded("A=aaa;", "aa").trees(), 0);
    }

    private static void lettersAlone() {
        String[] orders = {"A=B;B=C;C=D;D=E;E=e;", "A=E;E=D;D=C;C=B;B=e;", "A=C;C=B;B=E;E=D;D=e;",
            "A=D;D=B;B=E;E=C;C=e;"};
        for (String text : orders) {
            Check.same("trees of " + text, Check.loaded(text, "e").trees(), 1);
        }
        RankedTrees x = Check.loaded("A=B;A=C;B=D;C=D;D=d;B=d;A=d;A=D;", "d");
        Check.same("ways that part and meet", x.trees(), 5);
    }

    private static void manyTrees() {
        RankedTrees x = Check.loaded(
                "A=B;A=C;A=D;A=E;B=C;B=D;B=E;C=D;C=E;D=E;E=AA;E=AAA;E=a;E=b;", "aaaaaa");
        long leaf = 8;
        long pair = 8 * leaf * leaf;
        Check.same("ways for E", x.ways('E', 0, 2), leaf * leaf);
        Check.same("ways for A", x.ways('A', 0, 2), pair);
        Check.same("trees", x.trees(), 8L * sequences(6));
    }

    /** The trees for E and a span of n tokens, where each tree for E makes 8 for A. */
    private static long sequences(int n) {
        if (n == 1) {
            return 1;
        }
        long sum = 0;
        for (int a = 1; a < n; a++) {
            sum += 64 * sequences(a) * sequences(n - a);
            for (int b = 1; a + b < n; b++) {
                sum += 512 * sequences(a) * sequences(b) * sequences(n - a - b);
            }
        }
        return sum;
    }

    private static void waysOfEachSpan() {
        RankedTrees x = Check.loaded("A=AA;A=a;A=Bb;B=a;B=A;", "aab");
        long[][] wantA = {{1, 1, 3}, {0, 1, 2}, {0, 0, 0}};
        long[][] wantB = {{2, 1, 3}, {0, 2, 2}, {0, 0, 0}};
        for (int from = 0; from < 3; from++) {
            for (int to = from + 1; to <= 3; to++) {
                String span = " of (" + from + ", " + to + ")";
                Check.same("ways for A" + span, x.ways('A', from, to), wantA[from][to - 1]);
                Check.same("ways for B" + span, x.ways('B', from, to), wantB[from][to - 1]);
                Check.same("ways for C" + span, x.ways('C', from, to), 0);
            }
        }
        Check.same("trees", x.trees(), x.ways('A', 0, 3));
    }

    private static void uselessRulesDoNotCount() {
        RankedTrees x = Check.loaded("A=a;B=a;B=b;C=B;D=D;D=a;A=Ec;E=Eb;", "ab");
        for (char letter = 'B'; letter <= 'E'; letter++) {
            Check.same("ways for " + letter, x.ways(letter, 0, 1), 0);
            Check.same("ways for " + letter, x.ways(letter, 1, 2), 0);
        }
        Check.same("ways for A", x.ways('A', 0, 1), 1);
        RankedTrees y = Check.loaded("A=xB;B=b;B=CD;C=b;", "bb");
        Check.same("ways for B, useful", y.ways('B', 0, 1), 1);
        Check.same("ways for C, in a rule of no use", y.ways('C', 0, 1), 0);
    }

    private static void wrongArguments() {
        RankedTrees x = Check.loaded("A=a;", "aaa");
        char[] letters = {'@', 'F', 'Z', 'a', 0, 65535, 'A' + 256};
        for (char letter : letters) {
            Check.refused("ways of " + (int) letter, Check.ARGUMENT, () -> x.ways(letter, 0, 1));
            Check.refused("ways of " + (int) letter, Check.ARGUMENT, () -> x.ways(letter, 9, 1));
        }
        int[][] spans = {{0, 0}, {1, 1}, {3, 3}, {2, 1}, {0, 4}, {-1, 1}, {-1, 0}, {3, 4}, {4, 5},
            {Integer.MIN_VALUE, Integer.MAX_VALUE}, {0, Integer.MAX_VALUE},
            {Integer.MIN_VALUE, 1}, {Integer.MAX_VALUE, Integer.MIN_VALUE}, {0, 7}, {5, 6}};
        for (int[] s : spans) {
            Check.refused("ways of (" + s[0] + ", " + s[1] + ")", Check.INDEX,
                    () -> x.ways('A', s[0], s[1]));
        }
        x.drop();
        Check.refused("ways of an empty row", Check.INDEX, () -> x.ways('A', 0, 1));
        Check.refused("ways of an empty span", Check.INDEX, () -> x.ways('A', 0, 0));
    }

    private static void answersFollowTheState() {
        RankedTrees x = Check.loaded("A=AA;A=a;", "aa");
        Check.same("trees", x.trees(), 1);
        x.token('a');
        Check.same("trees of one more", x.trees(), 2);
        Check.same("load", Check.load(x, "A=AAA;A=a;A=b;A=AA;A=aaa;"), 0);
        Check.same("trees by another grammar", x.trees(), 4);
        Check.same("ways by another grammar", x.ways('A', 0, 2), 1);
        Check.row(x, "bab");
        Check.same("trees of another row", x.trees(), 3);
        Check.same("load", Check.load(x, "B=bab;"), 0);
        Check.same("trees with another start", x.trees(), 1);
        Check.same("ways for the old start", x.ways('A', 0, 3), 0);
    }
}
