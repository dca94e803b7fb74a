/** Promises 9 and 10: trees and ways. */
public final class CountTest {
    public static void main(String[] args) {
        treesOfGrowingRows();
        theStartIsTheHeadOfRule0();
        noTrees();
        lettersAlone();
        manyTrees();
        waysOfEachSpan();
        uselessRulesDoNotCount();
        wrongArguments();
        answersFollowTheState();
        noGrammar();
        everyLetter();
        everySpan();
        uselessOnBothSides();
        Check.end();
    }

    private static void treesOfGrowingRows() {
        RankedTrees x = Check.loaded("A=AA;A=a;", "");
        long[] catalan = {0, 1, 1, 2, 5, 14, 42};
        Check.same("trees of an empty row", x.trees(), 0);
        for (int k = 1; k <= 6; k++) {
            x.token('a');
            Check.same("trees of " + k, x.trees(), catalan[k]);
        }
    }

    private static void theStartIsTheHeadOfRule0() {
        RankedTrees x = Check.loaded("C=cA;A=a;B=b;C=x;", "a");
        Check.same("trees of a", x.trees(), 0);
        Check.row(x, "ca");
        Check.same("trees of ca", x.trees(), 1);
        Check.row(x, "b");
        Check.same("trees of b", x.trees(), 0);
    }

    private static void noTrees() {
        Check.same("no tree for the letter", Check.loaded("A=AA;", "aa").trees(), 0);
        Check.same("a circle of no use", Check.loaded("A=A;", "a").trees(), 0);
        Check.same("another token", Check.loaded("A=a;", "b").trees(), 0);
        Check.same("a longer row", Check.loaded("A=a;", "aa").trees(), 0);
        Check.same("a shorter row", Check.loaded("A=aaa;", "aa").trees(), 0);
    }

    private static void lettersAlone() {
        String[] orders = {"A=B;B=C;C=D;D=E;E=e;", "A=E;E=D;D=C;C=B;B=e;", "A=C;C=B;B=E;E=D;D=e;",
            "A=D;D=B;B=E;E=C;C=e;"};
        for (String text : orders) {
            Check.same("trees of " + text, Check.loaded(text, "e").trees(), 1);
        }
        RankedTrees x = Check.loaded("A=B;A=C;B=D;C=D;D=d;B=d;A=d;A=D;", "d");
        Check.same("ways that part and meet", x.trees(), 5);
    }

    private static void manyTrees() {
        RankedTrees x = Check.loaded(
                "A=B;A=C;A=D;A=E;B=C;B=D;B=E;C=D;C=E;D=E;E=AA;E=AAA;E=a;E=b;", "aaaaaa");
        long leaf = 8;
        long pair = 8 * leaf * leaf;
        Check.same("ways for E", x.ways('E', 0, 2), leaf * leaf);
        Check.same("ways for A", x.ways('A', 0, 2), pair);
        Check.same("trees", x.trees(), 8L * sequences(6));
    }

    /** The trees for E and a span of n tokens, where each tree for E makes 8 for A. */
    private static long sequences(int n) {
        if (n == 1) {
            return 1;
        }
        long sum = 0;
        for (int a = 1; a < n; a++) {
            sum += 64 * sequences(a) * sequences(n - a);
            for (int b = 1; a + b < n; b++) {
                sum += 512 * sequences(a) * sequences(b) * sequences(n - a - b);
            }
        }
        return sum;
    }

    private static void waysOfEachSpan() {
        RankedTrees x = Check.loaded("A=AA;A=a;A=Bb;B=a;B=A;", "aab");
        long[][] wantA = {{1, 1, 3}, {0, 1, 2}, {0, 0, 0}};
        long[][] wantB = {{2, 1, 3}, {0, 2, 2}, {0, 0, 0}};
        for (int from = 0; from < 3; from++) {
            for (int to = from + 1; to <= 3; to++) {
                String span = " of (" + from + ", " + to + ")";
                Check.same("ways for A" + span, x.ways('A', from, to), wantA[from][to - 1]);
                Check.same("ways for B" + span, x.ways('B', from, to), wantB[from][to - 1]);
                Check.same("ways for C" + span, x.ways('C', from, to), 0);
            }
        }
        Check.same("trees", x.trees(), x.ways('A', 0, 3));
    }

    private static void uselessRulesDoNotCount() {
        RankedTrees x = Check.loaded("A=a;B=a;B=b;C=B;D=D;D=a;A=Ec;E=Eb;", "ab");
        for (char letter = 'B'; letter <= 'E'; letter++) {
            Check.same("ways for " + letter, x.ways(letter, 0, 1), 0);
            Check.same("ways for " + letter, x.ways(letter, 1, 2), 0);
        }
        Check.same("ways for A", x.ways('A', 0, 1), 1);
        RankedTrees y = Check.loaded("A=xB;B=b;B=CD;C=b;", "bb");
        Check.same("ways for B, useful", y.ways('B', 0, 1), 1);
        Check.same("ways for C, in a rule of no use", y.ways('C', 0, 1), 0);
    }

    private static void wrongArguments() {
        RankedTrees x = Check.loaded("A=a;", "aaa");
        char[] letters = {'@', 'F', 'Z', 'a', 0, 65535, 'A' + 256};
        for (char letter : letters) {
            Check.refused("ways of " + (int) letter, Check.ARGUMENT, () -> x.ways(letter, 0, 1));
            Check.refused("ways of " + (int) letter, Check.ARGUMENT, () -> x.ways(letter, 9, 1));
        }
        int[][] spans = {{0, 0}, {1, 1}, {3, 3}, {2, 1}, {0, 4}, {-1, 1}, {-1, 0}, {3, 4}, {4, 5},
            {Integer.MIN_VALUE, Integer.MAX_VALUE}, {0, Integer.MAX_VALUE},
            {Integer.MIN_VALUE, 1}, {Integer.MAX_VALUE, Integer.MIN_VALUE}, {0, 7}, {5, 6}};
        for (int[] s : spans) {
            Check.refused("ways of (" + s[0] + ", " + s[1] + ")", Check.INDEX,
                    () -> x.ways('A', s[0], s[1]));
        }
        x.drop();
        Check.refused("ways of an empty row", Check.INDEX, () -> x.ways('A', 0, 1));
        Check.refused("ways of an empty span", Check.INDEX, () -> x.ways('A', 0, 0));
    }

    private static void answersFollowTheState() {
        RankedTrees x = Check.loaded("A=AA;A=a;", "aa");
        Check.same("trees", x.trees(), 1);
        x.token('a');
        Check.same("trees of one more", x.trees(), 2);
        Check.same("load", Check.load(x, "A=AAA;A=a;A=b;A=AA;A=aaa;"), 0);
        Check.same("trees by another grammar", x.trees(), 4);
        Check.same("ways by another grammar", x.ways('A', 0, 2), 1);
        Check.row(x, "bab");
        Check.same("trees of another row", x.trees(), 3);
        Check.same("load", Check.load(x, "B=bab;"), 0);
        Check.same("trees with another start", x.trees(), 1);
        Check.same("ways for the old start", x.ways('A', 0, 3), 0);
    }

    // "there is no grammar", whatever else is wrong, until a load answers 0
    private static void noGrammar() {
        RankedTrees x = new RankedTrees();
        Check.row(x, "ab");
        String[] bad = {"", "A=ab", "A=ab;A=ab;", "A=A;A=ab;"};
        for (String text : bad) {
            Check.holds("a fault", Check.load(x, text) != 0);
            Check.refused("trees", Check.STATE, x::trees);
            Check.refused("ways", Check.STATE, () -> x.ways('A', 0, 2));
            Check.refused("ways of no letter", Check.STATE, () -> x.ways('F', 0, 2));
            Check.refused("ways of no span", Check.STATE, () -> x.ways('A', 2, 3));
        }
        Check.same("load", Check.load(x, "A=ab;"), 0);
        Check.same("trees", x.trees(), 1);
        Check.same("ways", x.ways('A', 0, 2), 1);
        // A load that fails later takes no grammar away.
        Check.same("load of an empty text", Check.load(x, ""), -1);
        Check.same("trees", x.trees(), 1);
    }

    // "letter is none of these"
    private static void everyLetter() {
        RankedTrees x = null;
        for (int code = 0; code <= 65535; code++) {
            if (code % 400 == 0) {
                x = Check.loaded("A=BCD;B=a;C=b;D=E;E=c;", "abc");
            }
            RankedTrees now = x;
            char letter = (char) code;
            if (code >= 65 && code <= 69) {
                Check.same("ways of " + letter, now.ways(letter, 0, 1), letter == 'B' ? 1 : 0);
                Check.same("ways of " + letter, now.ways(letter, 2, 3), letter >= 'D' ? 1 : 0);
            } else {
                Check.refused("ways of " + code, Check.ARGUMENT, () -> now.ways(letter, 0, 1));
            }
        }
    }

    // "(from, to) is no span of the row": the row's length is the last to, and from is below it
    private static void everySpan() {
        for (int length = 0; length <= 6; length++) {
            RankedTrees x = Check.loaded("A=aA;A=a;", "aaaaaa".substring(6 - length));
            for (int from = -2; from <= 8; from++) {
                for (int to = -2; to <= 8; to++) {
                    everySpan(x, from, to, from >= 0 && from < to && to <= length);
                }
            }
            Check.same("the row stays", x.drop(), length);
        }
    }

    private static void everySpan(RankedTrees x, int from, int to, boolean there) {
        String call = "ways of (" + from + ", " + to + ")";
        if (there) {
            Check.same(call, x.ways('A', from, to), 1);
            Check.same(call + " for E", x.ways('E', from, to), 0);
        } else {
            Check.refused(call, Check.INDEX, () -> x.ways('A', from, to));
            Check.refused(call + " for F", Check.ARGUMENT, () -> x.ways('F', from, to));
        }
    }

    /** How many trees of useful rules each letter A .. E has for the row's only token. */
    private static void waysOfX(String text, long... want) {
        RankedTrees x = Check.loaded(text, "x");
        for (int k = 0; k < 5; k++) {
            char letter = (char) ('A' + k);
            Check.same("ways of " + letter + " by " + text, x.ways(letter, 0, 1), want[k]);
        }
    }

    // "trees whose rules are all useful"
    private static void uselessOnBothSides() {
        waysOfX("A=a;B=x;", 0, 0, 0, 0, 0);
        waysOfX("A=aB;B=x;", 0, 1, 0, 0, 0);
        waysOfX("A=a;A=BC;B=x;", 0, 0, 0, 0, 0);
        waysOfX("A=a;A=BC;B=x;C=c;", 0, 1, 0, 0, 0);
        waysOfX("A=aB;B=x;B=C;C=D;D=x;D=E;E=E;", 0, 2, 1, 1, 0);
        waysOfX("A=aB;B=x;C=B;D=B;D=x;", 0, 1, 0, 0, 0);
        waysOfX("C=x;A=x;B=x;D=x;E=x;", 0, 0, 1, 0, 0);
        // A useful letter may have a rule that is not.
        waysOfX("A=Bx;B=x;B=CE;C=x;D=C;", 0, 1, 0, 0, 0);
        // No row is long enough for these trees of A, yet their rules are useful.
        waysOfX("A=BBB;B=CCC;C=x;C=D;D=x;", 0, 0, 2, 1, 0);
    }
}
