/** Promises 11, 12 and 13: weight, size and at. */
public final class RankTest {
    // The row x has as many trees as the place of the text in this list, from 0.
    private static final String[] BY_TREES = {"A=y;", "A=x;", "A=x;A=B;B=x;",
        "A=x;A=B;B=x;B=C;C=x;", "A=x;A=B;B=x;B=C;C=x;C=D;D=x;",
        "A=x;A=B;B=x;B=C;C=x;C=D;D=x;D=E;E=x;", "A=x;A=B;B=x;B=C;C=x;C=D;D=x;D=E;E=x;A=E;",
        "A=x;A=B;B=x;B=C;C=x;C=D;D=x;D=E;E=x;A=D;", "A=x;A=B;B=x;B=C;C=x;C=D;D=x;D=E;E=x;A=C;",
        "A=x;A=B;B=x;B=C;C=x;C=D;D=x;D=E;E=x;A=C;A=E;"};

    public static void main(String[] args) {
        lessWeightComesFirst();
        theLesserRuleComesFirst();
        weightComesBeforeRules();
        theFirstDifferenceDecides();
        spansOfTheParts();
        eightAreKept();
        deepTrees();
        heavyTrees();
        wrongArguments();
        answersFollowTheState();
        noGrammar();
        asManyTreesAsThereAre();
        everyPlaceAndWhat();
        moreThanEightTrees();
        Check.end();
    }

    private static void lessWeightComesFirst() {
        Check.ranks(Check.loaded("A=B:5;A=C:3;A=a:7;B=a:1;C=a:2;A=D:0;D=a:9;", "a"),
                "5: 1(0,1) 4(0,1)", "6: 0(0,1) 3(0,1)", "7: 2(0,1)", "9: 5(0,1) 6(0,1)");
    }

    private static void theLesserRuleComesFirst() {
        Check.ranks(Check.loaded("A=AA;A=a;A=B;B=a:0;", "aa"),
                "3: 0(0,2) 1(0,1) 1(1,2)",
                "3: 0(0,2) 1(0,1) 2(1,2) 3(1,2)",
                "3: 0(0,2) 2(0,1) 3(0,1) 1(1,2)",
                "3: 0(0,2) 2(0,1) 3(0,1) 2(1,2) 3(1,2)");
    }

    private static void weightComesBeforeRules() {
        Check.ranks(Check.loaded("A=BC:0;B=b:4;B=bb:1;C=bb:0;C=b:2;", "bbb"),
                "3: 0(0,3) 2(0,2) 4(2,3)", "4: 0(0,3) 1(0,1) 3(1,3)");
    }

    // Later rules do not count where an earlier one differs, nor does a part's own rank.
    private static void theFirstDifferenceDecides() {
        Check.ranks(Check.loaded("A=BB:0;B=a:2;B=C:1;C=a:0;C=D:0;D=a:1;", "aa"),
                "2: 0(0,2) 2(0,1) 3(0,1) 2(1,2) 3(1,2)",
                "3: 0(0,2) 1(0,1) 2(1,2) 3(1,2)",
                "3: 0(0,2) 2(0,1) 3(0,1) 1(1,2)",
                "3: 0(0,2) 2(0,1) 3(0,1) 2(1,2) 4(1,2) 5(1,2)",
                "3: 0(0,2) 2(0,1) 4(0,1) 5(0,1) 2(1,2) 3(1,2)",
                "4: 0(0,2) 1(0,1) 1(1,2)",
                "4: 0(0,2) 1(0,1) 2(1,2) 4(1,2) 5(1,2)",
                "4: 0(0,2) 2(0,1) 4(0,1) 5(0,1) 1(1,2)");
    }

    private static void spansOfTheParts() {
        Check.ranks(Check.loaded("A=xBy:1;B=BbC:2;B=b:3;C=cC:4;C=c:5;", "xbbccy"),
                "15: 0(0,6) 1(1,5) 2(1,2) 3(3,5) 4(4,5)");
        Check.ranks(Check.loaded("A=BCD;B=b;B=bb;C=b;C=bb;D=b;", "bbbb"),
                "4: 0(0,4) 1(0,1) 4(1,3) 5(3,4)", "4: 0(0,4) 2(0,2) 3(2,3) 5(3,4)");
        Check.ranks(Check.loaded("A=aBc;B=C;C=D;D=E;E=bb:0;", "abbc"),
                "4: 0(0,4) 1(1,3) 2(1,3) 3(1,3) 4(1,3)");
    }

    private static void eightAreKept() {
        RankedTrees x = Check.loaded("A=AA:1;A=a:10;A=B:0;B=a:10;", "aaaa");
        Check.same("trees", x.trees(), 80);
        for (int k = 0; k < 8; k++) {
            Check.same("weight of " + k, x.weight(k), 43);
            Check.same("first rule of " + k, x.at(k, 0, 0), 0);
        }
        Check.text("tree 0", Check.tree(x, 0),
                "0(0,4) 0(0,3) 0(0,2) 1(0,1) 1(1,2) 1(2,3) 1(3,4)");
        Check.text("tree 7", Check.tree(x, 7),
                "0(0,4) 0(0,3) 0(0,2) 1(0,1) 2(1,2) 3(1,2) 2(2,3) 3(2,3) 2(3,4) 3(3,4)");
        Check.refused("weight(8)", Check.ARGUMENT, () -> x.weight(8));
        RankedTrees y = Check.loaded("A=a:9;A=B:7;A=C:6;A=D:5;A=E:4;B=a;B=C:0;B=D:0;C=a:0;C=D:0;"
                + "D=a:2;D=E:1;E=a:0;", "a");
        Check.same("trees", y.trees(), 13);
        int[] want = {4, 6, 6, 7, 7, 7, 8, 8};
        for (int k = 0; k < 8; k++) {
            Check.same("weight of " + k, y.weight(k), want[k]);
        }
    }

    private static void deepTrees() {
        RankedTrees x = Check.loaded("A=B;B=C;C=D;D=E;E=AA;E=a;", "aaaaaa");
        Check.same("trees", x.trees(), 42);
        Check.same("size", x.size(0), 55);
        Check.same("weight", x.weight(7), 55);
        Check.same("last rule", x.at(0, 54, 0), 5);
        Check.same("last from", x.at(0, 54, 1), 5);
        Check.same("last to", x.at(0, 54, 2), 6);
        Check.same("29th rule of the left tree", x.at(0, 29, 0), 5);
        Check.same("29th span of the left tree", x.at(0, 29, 2), 1);
        Check.refused("behind the last", Check.INDEX, () -> x.at(0, 55, 0));
    }

    private static void heavyTrees() {
        RankedTrees x = Check.loaded(
                "A=B:999;B=C:999;C=D:999;D=E:999;E=AA:999;E=a:999;", "aaaaaa");
        Check.same("weight", x.weight(0), 55 * 999);
        Check.same("weight of no weights", Check.loaded("A=B:0;B=b:00;", "b").weight(0), 0);
    }

    private static void wrongArguments() {
        RankedTrees x = Check.loaded("A=a;A=B;B=a;", "a");
        int[] wrong = {-1, 8, 9, Integer.MAX_VALUE, Integer.MIN_VALUE};
        for (int k : wrong) {
            Check.refused("weight(" + k + ")", Check.ARGUMENT, () -> x.weight(k));
            Check.refused("size(" + k + ")", Check.ARGUMENT, () -> x.size(k));
            Check.refused("at(" + k + ", 0, 0)", Check.ARGUMENT, () -> x.at(k, 0, 0));
            Check.refused("at(" + k + ", 99, 0)", Check.ARGUMENT, () -> x.at(k, 99, 0));
            Check.refused("at(0, " + k + ", 0)", Check.INDEX, () -> x.at(0, k, 0));
            if (k != 0) {
                Check.refused("at(0, 0, " + k + ")", Check.ARGUMENT, () -> x.at(0, 0, k));
                Check.refused("at(7, 0, " + k + ")", Check.ARGUMENT, () -> x.at(7, 0, k));
                Check.refused("at(0, 9, " + k + ")", Check.ARGUMENT, () -> x.at(0, 9, k));
            }
        }
        Check.refused("at(0, 0, 3)", Check.ARGUMENT, () -> x.at(0, 0, 3));
        Check.refused("at(0, 1, 0)", Check.INDEX, () -> x.at(0, 1, 0));
        Check.same("at(1, 1, 0)", x.at(1, 1, 0), 2);
        Check.refused("at(1, 2, 0)", Check.INDEX, () -> x.at(1, 2, 0));
        noSuchTree(x, 2);
        noSuchTree(x, 7);
        x.token('a');
        noSuchTree(x, 0);
        x.drop();
        noSuchTree(x, 0);
        noSuchTree(x, 7);
        Check.refused("weight of an empty row, k 8", Check.ARGUMENT, () -> x.weight(8));
    }

    private static void noSuchTree(RankedTrees x, int k) {
        Check.refused("weight(" + k + ")", Check.ELEMENT, () -> x.weight(k));
        Check.refused("size(" + k + ")", Check.ELEMENT, () -> x.size(k));
        Check.refused("at(" + k + ", 0, 0)", Check.ELEMENT, () -> x.at(k, 0, 0));
        Check.refused("at(" + k + ", -1, 2)", Check.ELEMENT, () -> x.at(k, -1, 2));
        Check.refused("at(" + k + ", 0, 3)", Check.ARGUMENT, () -> x.at(k, 0, 3));
    }

    private static void answersFollowTheState() {
        RankedTrees x = Check.loaded("A=AA;A=a;A=b:5;", "a");
        Check.ranks(x, "1: 1(0,1)");
        x.token('b');
        Check.ranks(x, "7: 0(0,2) 1(0,1) 2(1,2)");
        Check.row(x, "ba");
        Check.ranks(x, "7: 0(0,2) 2(0,1) 1(1,2)");
        Check.same("load", Check.load(x, "A=b:3;B=BB:2;A=Aa:4;"), 0);
        Check.ranks(x, "7: 2(0,2) 0(0,1)");
        Check.same("load", Check.load(x, "C=Ca;"), 0);
        Check.ranks(x);
    }

    // "there is no grammar", whatever else is wrong, until a load answers 0
    private static void noGrammar() {
        RankedTrees x = new RankedTrees();
        Check.row(x, "ab");
        String[] bad = {"", "A=ab", "A=ab;A=ab;", "A=A;A=ab;"};
        for (String text : bad) {
            Check.holds("a fault", Check.load(x, text) != 0);
            for (int k = -1; k <= 8; k++) {
                int rank = k;
                Check.refused("weight(" + k + ")", Check.STATE, () -> x.weight(rank));
                Check.refused("size(" + k + ")", Check.STATE, () -> x.size(rank));
                Check.refused("at(" + k + ", 0, 0)", Check.STATE, () -> x.at(rank, 0, 0));
                Check.refused("at(0, " + k + ", 0)", Check.STATE, () -> x.at(0, rank, 0));
                Check.refused("at(0, 0, " + k + ")", Check.STATE, () -> x.at(0, 0, rank));
            }
        }
        Check.same("load", Check.load(x, "A=ab:6;"), 0);
        Check.ranks(x, "6: 0(0,2)");
    }

    // "k is not 0 .. 7", "the row has no k-th tree"
    private static void asManyTreesAsThereAre() {
        for (int trees = 0; trees < BY_TREES.length; trees++) {
            RankedTrees x = Check.loaded(BY_TREES[trees], "x");
            Check.same("trees", x.trees(), trees);
            int last = 0;
            for (int k = -2; k <= 10; k++) {
                int rank = k;
                if (k < 0 || k > 7) {
                    refusedRank(x, k, Check.ARGUMENT);
                } else if (k >= trees) {
                    refusedRank(x, k, Check.ELEMENT);
                } else {
                    Check.holds("the weights rise", x.weight(k) >= last);
                    last = x.weight(k);
                    Check.same("each rule weighs 1", x.size(k), last);
                    Check.refused("behind it", Check.INDEX, () -> x.at(rank, x.size(rank), 0));
                }
            }
        }
    }

    private static void refusedRank(RankedTrees x, int k, Class<? extends RuntimeException> want) {
        Check.refused("weight(" + k + ")", want, () -> x.weight(k));
        Check.refused("size(" + k + ")", want, () -> x.size(k));
        for (int i : new int[] {-1, 0, 1, 99}) {
            for (int what = 0; what <= 2; what++) {
                int which = what;
                Check.refused("at(" + k + ", " + i + ")", want, () -> x.at(k, i, which));
            }
            Check.refused("at(" + k + ", " + i + ", 3)", Check.ARGUMENT, () -> x.at(k, i, 3));
            Check.refused("at(" + k + ", " + i + ", -1)", Check.ARGUMENT, () -> x.at(k, i, -1));
        }
    }

    // "that has no i-th rule", "what not 0 .. 2"
    private static void everyPlaceAndWhat() {
        RankedTrees x = Check.loaded("A=xBy:0;A=xzy:5;B=C:2;C=z:1;", "xzy");
        int[][][] want = {{{0, 0, 3}, {2, 1, 2}, {3, 1, 2}}, {{1, 0, 3}}};
        for (int k = 0; k < 2; k++) {
            Check.same("size", x.size(k), want[k].length);
            for (int i = -2; i <= 5; i++) {
                for (int what = -2; what <= 4; what++) {
                    everyPlaceAndWhat(x, k, i, what, want[k]);
                }
            }
        }
    }

    private static void everyPlaceAndWhat(RankedTrees x, int k, int i, int what, int[][] want) {
        String call = "at(" + k + ", " + i + ", " + what + ")";
        if (what < 0 || what > 2) {
            Check.refused(call, Check.ARGUMENT, () -> x.at(k, i, what));
        } else if (i < 0 || i >= want.length) {
            Check.refused(call, Check.INDEX, () -> x.at(k, i, what));
        } else {
            Check.same(call, x.at(k, i, what), want[i][what]);
        }
    }

    // Eight of the many are told, and the others are counted.
    private static void moreThanEightTrees() {
        RankedTrees x = Check.loaded("A=AA:0;A=x:0;", "xxxxxx");
        Check.same("trees", x.trees(), 42);
        Check.text("tree 7", Check.tree(x, 7), "0(0,6) 0(0,5) 0(0,3) 1(0,1) 0(1,3) 1(1,2) 1(2,3)"
                + " 0(3,5) 1(3,4) 1(4,5) 1(5,6)");
        refusedRank(x, 8, Check.ARGUMENT);
        refusedRank(x, 41, Check.ARGUMENT);
        refusedRank(x, 42, Check.ARGUMENT);
        refusedRank(x, Integer.MIN_VALUE, Check.ARGUMENT);
        refusedRank(x, Integer.MAX_VALUE, Check.ARGUMENT);
    }
}
